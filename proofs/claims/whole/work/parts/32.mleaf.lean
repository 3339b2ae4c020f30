theorem s_m_isOf0 {d : Nat} {S : mS} {Q : mQ} : ∀ t, 1 ≤ t → t ≤ 9 → Q (some (.int (bI (hB (m_sv 500 0) (nI t))))) S → Ev d n_X6_isOf [.int (nI t), .int (nI 0)] S Q := by
  intro t h1 h9 h
  match t, h1, h9 with
  | 0, h1, _ => exact absurd h1 (by omega)
  | 1, _, _ =>
    rw [bI_t (by decide)] at h
    (repeat (first | refine Wp.p rfl ?_ | refine Wp.bT rfl (by decide) ?_ | refine Wp.bF rfl (by decide) ?_))
    exact Wp.r rfl (Or.inr rfl) h
  | 2, _, _ =>
    rw [bI_t (by decide)] at h
    (repeat (first | refine Wp.p rfl ?_ | refine Wp.bT rfl (by decide) ?_ | refine Wp.bF rfl (by decide) ?_))
    exact Wp.r rfl (Or.inr rfl) h
  | 3, _, _ =>
    rw [bI_t (by decide)] at h
    (repeat (first | refine Wp.p rfl ?_ | refine Wp.bT rfl (by decide) ?_ | refine Wp.bF rfl (by decide) ?_))
    exact Wp.r rfl (Or.inr rfl) h
  | 4, _, _ =>
    rw [bI_t (by decide)] at h
    (repeat (first | refine Wp.p rfl ?_ | refine Wp.bT rfl (by decide) ?_ | refine Wp.bF rfl (by decide) ?_))
    exact Wp.r rfl (Or.inr rfl) h
  | 5, _, _ =>
    rw [bI_t (by decide)] at h
    (repeat (first | refine Wp.p rfl ?_ | refine Wp.bT rfl (by decide) ?_ | refine Wp.bF rfl (by decide) ?_))
    exact Wp.r rfl (Or.inr rfl) h
  | 6, _, _ =>
    rw [bI_t (by decide)] at h
    (repeat (first | refine Wp.p rfl ?_ | refine Wp.bT rfl (by decide) ?_ | refine Wp.bF rfl (by decide) ?_))
    exact Wp.r rfl (Or.inr rfl) h
  | 7, _, _ =>
    rw [bI_t (by decide)] at h
    (repeat (first | refine Wp.p rfl ?_ | refine Wp.bT rfl (by decide) ?_ | refine Wp.bF rfl (by decide) ?_))
    exact Wp.r rfl (Or.inr rfl) h
  | 8, _, _ =>
    rw [bI_t (by decide)] at h
    (repeat (first | refine Wp.p rfl ?_ | refine Wp.bT rfl (by decide) ?_ | refine Wp.bF rfl (by decide) ?_))
    exact Wp.r rfl (Or.inr rfl) h
  | 9, _, _ =>
    rw [bI_t (by decide)] at h
    (repeat (first | refine Wp.p rfl ?_ | refine Wp.bT rfl (by decide) ?_ | refine Wp.bF rfl (by decide) ?_))
    exact Wp.r rfl (Or.inr rfl) h
  | t + 10, _, h9 => exact absurd h9 (by omega)
theorem s_m_isOf1 {d : Nat} {S : mS} {Q : mQ} : ∀ t, 1 ≤ t → t ≤ 9 → Q (some (.int (bI (hB (m_sv 500 1) (nI t))))) S → Ev d n_X6_isOf [.int (nI t), .int (nI 1)] S Q := by
  intro t h1 h9 h
  match t, h1, h9 with
  | 0, h1, _ => exact absurd h1 (by omega)
  | 1, _, _ =>
    rw [bI_t (by decide)] at h
    (repeat (first | refine Wp.p rfl ?_ | refine Wp.bT rfl (by decide) ?_ | refine Wp.bF rfl (by decide) ?_))
    exact Wp.r rfl (Or.inr rfl) h
  | 2, _, _ =>
    rw [bI_t (by decide)] at h
    (repeat (first | refine Wp.p rfl ?_ | refine Wp.bT rfl (by decide) ?_ | refine Wp.bF rfl (by decide) ?_))
    exact Wp.r rfl (Or.inr rfl) h
  | 3, _, _ =>
    rw [bI_t (by decide)] at h
    (repeat (first | refine Wp.p rfl ?_ | refine Wp.bT rfl (by decide) ?_ | refine Wp.bF rfl (by decide) ?_))
    exact Wp.r rfl (Or.inr rfl) h
  | 4, _, _ =>
    rw [bI_t (by decide)] at h
    (repeat (first | refine Wp.p rfl ?_ | refine Wp.bT rfl (by decide) ?_ | refine Wp.bF rfl (by decide) ?_))
    exact Wp.r rfl (Or.inr rfl) h
  | 5, _, _ =>
    rw [bI_f (by decide)] at h
    (repeat (first | refine Wp.p rfl ?_ | refine Wp.bT rfl (by decide) ?_ | refine Wp.bF rfl (by decide) ?_))
    exact Wp.r rfl (Or.inl rfl) h
  | 6, _, _ =>
    rw [bI_f (by decide)] at h
    (repeat (first | refine Wp.p rfl ?_ | refine Wp.bT rfl (by decide) ?_ | refine Wp.bF rfl (by decide) ?_))
    exact Wp.r rfl (Or.inl rfl) h
  | 7, _, _ =>
    rw [bI_f (by decide)] at h
    (repeat (first | refine Wp.p rfl ?_ | refine Wp.bT rfl (by decide) ?_ | refine Wp.bF rfl (by decide) ?_))
    exact Wp.r rfl (Or.inl rfl) h
  | 8, _, _ =>
    rw [bI_f (by decide)] at h
    (repeat (first | refine Wp.p rfl ?_ | refine Wp.bT rfl (by decide) ?_ | refine Wp.bF rfl (by decide) ?_))
    exact Wp.r rfl (Or.inl rfl) h
  | 9, _, _ =>
    rw [bI_f (by decide)] at h
    (repeat (first | refine Wp.p rfl ?_ | refine Wp.bT rfl (by decide) ?_ | refine Wp.bF rfl (by decide) ?_))
    exact Wp.r rfl (Or.inl rfl) h
  | t + 10, _, h9 => exact absurd h9 (by omega)
theorem s_m_isOf2 {d : Nat} {S : mS} {Q : mQ} : ∀ t, 1 ≤ t → t ≤ 9 → Q (some (.int (bI (hB (m_sv 500 2) (nI t))))) S → Ev d n_X6_isOf [.int (nI t), .int (nI 2)] S Q := by
  intro t h1 h9 h
  match t, h1, h9 with
  | 0, h1, _ => exact absurd h1 (by omega)
  | 1, _, _ =>
    rw [bI_f (by decide)] at h
    (repeat (first | refine Wp.p rfl ?_ | refine Wp.bT rfl (by decide) ?_ | refine Wp.bF rfl (by decide) ?_))
    exact Wp.r rfl (Or.inl rfl) h
  | 2, _, _ =>
    rw [bI_t (by decide)] at h
    (repeat (first | refine Wp.p rfl ?_ | refine Wp.bT rfl (by decide) ?_ | refine Wp.bF rfl (by decide) ?_))
    exact Wp.r rfl (Or.inr rfl) h
  | 3, _, _ =>
    rw [bI_f (by decide)] at h
    (repeat (first | refine Wp.p rfl ?_ | refine Wp.bT rfl (by decide) ?_ | refine Wp.bF rfl (by decide) ?_))
    exact Wp.r rfl (Or.inl rfl) h
  | 4, _, _ =>
    rw [bI_f (by decide)] at h
    (repeat (first | refine Wp.p rfl ?_ | refine Wp.bT rfl (by decide) ?_ | refine Wp.bF rfl (by decide) ?_))
    exact Wp.r rfl (Or.inl rfl) h
  | 5, _, _ =>
    rw [bI_f (by decide)] at h
    (repeat (first | refine Wp.p rfl ?_ | refine Wp.bT rfl (by decide) ?_ | refine Wp.bF rfl (by decide) ?_))
    exact Wp.r rfl (Or.inl rfl) h
  | 6, _, _ =>
    rw [bI_f (by decide)] at h
    (repeat (first | refine Wp.p rfl ?_ | refine Wp.bT rfl (by decide) ?_ | refine Wp.bF rfl (by decide) ?_))
    exact Wp.r rfl (Or.inl rfl) h
  | 7, _, _ =>
    rw [bI_f (by decide)] at h
    (repeat (first | refine Wp.p rfl ?_ | refine Wp.bT rfl (by decide) ?_ | refine Wp.bF rfl (by decide) ?_))
    exact Wp.r rfl (Or.inl rfl) h
  | 8, _, _ =>
    rw [bI_f (by decide)] at h
    (repeat (first | refine Wp.p rfl ?_ | refine Wp.bT rfl (by decide) ?_ | refine Wp.bF rfl (by decide) ?_))
    exact Wp.r rfl (Or.inl rfl) h
  | 9, _, _ =>
    rw [bI_f (by decide)] at h
    (repeat (first | refine Wp.p rfl ?_ | refine Wp.bT rfl (by decide) ?_ | refine Wp.bF rfl (by decide) ?_))
    exact Wp.r rfl (Or.inl rfl) h
  | t + 10, _, h9 => exact absurd h9 (by omega)
theorem s_m_isOf3 {d : Nat} {S : mS} {Q : mQ} : ∀ t, 1 ≤ t → t ≤ 9 → Q (some (.int (bI (hB (m_sv 500 3) (nI t))))) S → Ev d n_X6_isOf [.int (nI t), .int (nI 3)] S Q := by
  intro t h1 h9 h
  match t, h1, h9 with
  | 0, h1, _ => exact absurd h1 (by omega)
  | 1, _, _ =>
    rw [bI_f (by decide)] at h
    (repeat (first | refine Wp.p rfl ?_ | refine Wp.bT rfl (by decide) ?_ | refine Wp.bF rfl (by decide) ?_))
    exact Wp.r rfl (Or.inl rfl) h
  | 2, _, _ =>
    rw [bI_f (by decide)] at h
    (repeat (first | refine Wp.p rfl ?_ | refine Wp.bT rfl (by decide) ?_ | refine Wp.bF rfl (by decide) ?_))
    exact Wp.r rfl (Or.inl rfl) h
  | 3, _, _ =>
    rw [bI_t (by decide)] at h
    (repeat (first | refine Wp.p rfl ?_ | refine Wp.bT rfl (by decide) ?_ | refine Wp.bF rfl (by decide) ?_))
    exact Wp.r rfl (Or.inr rfl) h
  | 4, _, _ =>
    rw [bI_t (by decide)] at h
    (repeat (first | refine Wp.p rfl ?_ | refine Wp.bT rfl (by decide) ?_ | refine Wp.bF rfl (by decide) ?_))
    exact Wp.r rfl (Or.inr rfl) h
  | 5, _, _ =>
    rw [bI_f (by decide)] at h
    (repeat (first | refine Wp.p rfl ?_ | refine Wp.bT rfl (by decide) ?_ | refine Wp.bF rfl (by decide) ?_))
    exact Wp.r rfl (Or.inl rfl) h
  | 6, _, _ =>
    rw [bI_f (by decide)] at h
    (repeat (first | refine Wp.p rfl ?_ | refine Wp.bT rfl (by decide) ?_ | refine Wp.bF rfl (by decide) ?_))
    exact Wp.r rfl (Or.inl rfl) h
  | 7, _, _ =>
    rw [bI_f (by decide)] at h
    (repeat (first | refine Wp.p rfl ?_ | refine Wp.bT rfl (by decide) ?_ | refine Wp.bF rfl (by decide) ?_))
    exact Wp.r rfl (Or.inl rfl) h
  | 8, _, _ =>
    rw [bI_f (by decide)] at h
    (repeat (first | refine Wp.p rfl ?_ | refine Wp.bT rfl (by decide) ?_ | refine Wp.bF rfl (by decide) ?_))
    exact Wp.r rfl (Or.inl rfl) h
  | 9, _, _ =>
    rw [bI_f (by decide)] at h
    (repeat (first | refine Wp.p rfl ?_ | refine Wp.bT rfl (by decide) ?_ | refine Wp.bF rfl (by decide) ?_))
    exact Wp.r rfl (Or.inl rfl) h
  | t + 10, _, h9 => exact absurd h9 (by omega)
theorem s_m_isOf4 {d : Nat} {S : mS} {Q : mQ} : ∀ t, 1 ≤ t → t ≤ 9 → Q (some (.int (bI (hB (m_sv 500 4) (nI t))))) S → Ev d n_X6_isOf [.int (nI t), .int (nI 4)] S Q := by
  intro t h1 h9 h
  match t, h1, h9 with
  | 0, h1, _ => exact absurd h1 (by omega)
  | 1, _, _ =>
    rw [bI_f (by decide)] at h
    (repeat (first | refine Wp.p rfl ?_ | refine Wp.bT rfl (by decide) ?_ | refine Wp.bF rfl (by decide) ?_))
    exact Wp.r rfl (Or.inl rfl) h
  | 2, _, _ =>
    rw [bI_f (by decide)] at h
    (repeat (first | refine Wp.p rfl ?_ | refine Wp.bT rfl (by decide) ?_ | refine Wp.bF rfl (by decide) ?_))
    exact Wp.r rfl (Or.inl rfl) h
  | 3, _, _ =>
    rw [bI_f (by decide)] at h
    (repeat (first | refine Wp.p rfl ?_ | refine Wp.bT rfl (by decide) ?_ | refine Wp.bF rfl (by decide) ?_))
    exact Wp.r rfl (Or.inl rfl) h
  | 4, _, _ =>
    rw [bI_t (by decide)] at h
    (repeat (first | refine Wp.p rfl ?_ | refine Wp.bT rfl (by decide) ?_ | refine Wp.bF rfl (by decide) ?_))
    exact Wp.r rfl (Or.inr rfl) h
  | 5, _, _ =>
    rw [bI_f (by decide)] at h
    (repeat (first | refine Wp.p rfl ?_ | refine Wp.bT rfl (by decide) ?_ | refine Wp.bF rfl (by decide) ?_))
    exact Wp.r rfl (Or.inl rfl) h
  | 6, _, _ =>
    rw [bI_f (by decide)] at h
    (repeat (first | refine Wp.p rfl ?_ | refine Wp.bT rfl (by decide) ?_ | refine Wp.bF rfl (by decide) ?_))
    exact Wp.r rfl (Or.inl rfl) h
  | 7, _, _ =>
    rw [bI_f (by decide)] at h
    (repeat (first | refine Wp.p rfl ?_ | refine Wp.bT rfl (by decide) ?_ | refine Wp.bF rfl (by decide) ?_))
    exact Wp.r rfl (Or.inl rfl) h
  | 8, _, _ =>
    rw [bI_f (by decide)] at h
    (repeat (first | refine Wp.p rfl ?_ | refine Wp.bT rfl (by decide) ?_ | refine Wp.bF rfl (by decide) ?_))
    exact Wp.r rfl (Or.inl rfl) h
  | 9, _, _ =>
    rw [bI_f (by decide)] at h
    (repeat (first | refine Wp.p rfl ?_ | refine Wp.bT rfl (by decide) ?_ | refine Wp.bF rfl (by decide) ?_))
    exact Wp.r rfl (Or.inl rfl) h
  | t + 10, _, h9 => exact absurd h9 (by omega)
theorem s_m_isOf5 {d : Nat} {S : mS} {Q : mQ} : ∀ t, 1 ≤ t → t ≤ 9 → Q (some (.int (bI (hB (m_sv 500 5) (nI t))))) S → Ev d n_X6_isOf [.int (nI t), .int (nI 5)] S Q := by
  intro t h1 h9 h
  match t, h1, h9 with
  | 0, h1, _ => exact absurd h1 (by omega)
  | 1, _, _ =>
    rw [bI_f (by decide)] at h
    (repeat (first | refine Wp.p rfl ?_ | refine Wp.bT rfl (by decide) ?_ | refine Wp.bF rfl (by decide) ?_))
    exact Wp.r rfl (Or.inl rfl) h
  | 2, _, _ =>
    rw [bI_t (by decide)] at h
    (repeat (first | refine Wp.p rfl ?_ | refine Wp.bT rfl (by decide) ?_ | refine Wp.bF rfl (by decide) ?_))
    exact Wp.r rfl (Or.inr rfl) h
  | 3, _, _ =>
    rw [bI_f (by decide)] at h
    (repeat (first | refine Wp.p rfl ?_ | refine Wp.bT rfl (by decide) ?_ | refine Wp.bF rfl (by decide) ?_))
    exact Wp.r rfl (Or.inl rfl) h
  | 4, _, _ =>
    rw [bI_t (by decide)] at h
    (repeat (first | refine Wp.p rfl ?_ | refine Wp.bT rfl (by decide) ?_ | refine Wp.bF rfl (by decide) ?_))
    exact Wp.r rfl (Or.inr rfl) h
  | 5, _, _ =>
    rw [bI_f (by decide)] at h
    (repeat (first | refine Wp.p rfl ?_ | refine Wp.bT rfl (by decide) ?_ | refine Wp.bF rfl (by decide) ?_))
    exact Wp.r rfl (Or.inl rfl) h
  | 6, _, _ =>
    rw [bI_f (by decide)] at h
    (repeat (first | refine Wp.p rfl ?_ | refine Wp.bT rfl (by decide) ?_ | refine Wp.bF rfl (by decide) ?_))
    exact Wp.r rfl (Or.inl rfl) h
  | 7, _, _ =>
    rw [bI_f (by decide)] at h
    (repeat (first | refine Wp.p rfl ?_ | refine Wp.bT rfl (by decide) ?_ | refine Wp.bF rfl (by decide) ?_))
    exact Wp.r rfl (Or.inl rfl) h
  | 8, _, _ =>
    rw [bI_f (by decide)] at h
    (repeat (first | refine Wp.p rfl ?_ | refine Wp.bT rfl (by decide) ?_ | refine Wp.bF rfl (by decide) ?_))
    exact Wp.r rfl (Or.inl rfl) h
  | 9, _, _ =>
    rw [bI_f (by decide)] at h
    (repeat (first | refine Wp.p rfl ?_ | refine Wp.bT rfl (by decide) ?_ | refine Wp.bF rfl (by decide) ?_))
    exact Wp.r rfl (Or.inl rfl) h
  | t + 10, _, h9 => exact absurd h9 (by omega)
theorem s_m_isOf6 {d : Nat} {S : mS} {Q : mQ} : ∀ t, 1 ≤ t → t ≤ 9 → Q (some (.int (bI (hB (m_sv 500 6) (nI t))))) S → Ev d n_X6_isOf [.int (nI t), .int (nI 6)] S Q := by
  intro t h1 h9 h
  match t, h1, h9 with
  | 0, h1, _ => exact absurd h1 (by omega)
  | 1, _, _ =>
    rw [bI_f (by decide)] at h
    (repeat (first | refine Wp.p rfl ?_ | refine Wp.bT rfl (by decide) ?_ | refine Wp.bF rfl (by decide) ?_))
    exact Wp.r rfl (Or.inl rfl) h
  | 2, _, _ =>
    rw [bI_f (by decide)] at h
    (repeat (first | refine Wp.p rfl ?_ | refine Wp.bT rfl (by decide) ?_ | refine Wp.bF rfl (by decide) ?_))
    exact Wp.r rfl (Or.inl rfl) h
  | 3, _, _ =>
    rw [bI_f (by decide)] at h
    (repeat (first | refine Wp.p rfl ?_ | refine Wp.bT rfl (by decide) ?_ | refine Wp.bF rfl (by decide) ?_))
    exact Wp.r rfl (Or.inl rfl) h
  | 4, _, _ =>
    rw [bI_f (by decide)] at h
    (repeat (first | refine Wp.p rfl ?_ | refine Wp.bT rfl (by decide) ?_ | refine Wp.bF rfl (by decide) ?_))
    exact Wp.r rfl (Or.inl rfl) h
  | 5, _, _ =>
    rw [bI_t (by decide)] at h
    (repeat (first | refine Wp.p rfl ?_ | refine Wp.bT rfl (by decide) ?_ | refine Wp.bF rfl (by decide) ?_))
    exact Wp.r rfl (Or.inr rfl) h
  | 6, _, _ =>
    rw [bI_f (by decide)] at h
    (repeat (first | refine Wp.p rfl ?_ | refine Wp.bT rfl (by decide) ?_ | refine Wp.bF rfl (by decide) ?_))
    exact Wp.r rfl (Or.inl rfl) h
  | 7, _, _ =>
    rw [bI_f (by decide)] at h
    (repeat (first | refine Wp.p rfl ?_ | refine Wp.bT rfl (by decide) ?_ | refine Wp.bF rfl (by decide) ?_))
    exact Wp.r rfl (Or.inl rfl) h
  | 8, _, _ =>
    rw [bI_f (by decide)] at h
    (repeat (first | refine Wp.p rfl ?_ | refine Wp.bT rfl (by decide) ?_ | refine Wp.bF rfl (by decide) ?_))
    exact Wp.r rfl (Or.inl rfl) h
  | 9, _, _ =>
    rw [bI_f (by decide)] at h
    (repeat (first | refine Wp.p rfl ?_ | refine Wp.bT rfl (by decide) ?_ | refine Wp.bF rfl (by decide) ?_))
    exact Wp.r rfl (Or.inl rfl) h
  | t + 10, _, h9 => exact absurd h9 (by omega)
theorem s_m_isOf7 {d : Nat} {S : mS} {Q : mQ} : ∀ t, 1 ≤ t → t ≤ 9 → Q (some (.int (bI (hB (m_sv 500 7) (nI t))))) S → Ev d n_X6_isOf [.int (nI t), .int (nI 7)] S Q := by
  intro t h1 h9 h
  match t, h1, h9 with
  | 0, h1, _ => exact absurd h1 (by omega)
  | 1, _, _ =>
    rw [bI_f (by decide)] at h
    (repeat (first | refine Wp.p rfl ?_ | refine Wp.bT rfl (by decide) ?_ | refine Wp.bF rfl (by decide) ?_))
    exact Wp.r rfl (Or.inl rfl) h
  | 2, _, _ =>
    rw [bI_f (by decide)] at h
    (repeat (first | refine Wp.p rfl ?_ | refine Wp.bT rfl (by decide) ?_ | refine Wp.bF rfl (by decide) ?_))
    exact Wp.r rfl (Or.inl rfl) h
  | 3, _, _ =>
    rw [bI_f (by decide)] at h
    (repeat (first | refine Wp.p rfl ?_ | refine Wp.bT rfl (by decide) ?_ | refine Wp.bF rfl (by decide) ?_))
    exact Wp.r rfl (Or.inl rfl) h
  | 4, _, _ =>
    rw [bI_f (by decide)] at h
    (repeat (first | refine Wp.p rfl ?_ | refine Wp.bT rfl (by decide) ?_ | refine Wp.bF rfl (by decide) ?_))
    exact Wp.r rfl (Or.inl rfl) h
  | 5, _, _ =>
    rw [bI_f (by decide)] at h
    (repeat (first | refine Wp.p rfl ?_ | refine Wp.bT rfl (by decide) ?_ | refine Wp.bF rfl (by decide) ?_))
    exact Wp.r rfl (Or.inl rfl) h
  | 6, _, _ =>
    rw [bI_t (by decide)] at h
    (repeat (first | refine Wp.p rfl ?_ | refine Wp.bT rfl (by decide) ?_ | refine Wp.bF rfl (by decide) ?_))
    exact Wp.r rfl (Or.inr rfl) h
  | 7, _, _ =>
    rw [bI_f (by decide)] at h
    (repeat (first | refine Wp.p rfl ?_ | refine Wp.bT rfl (by decide) ?_ | refine Wp.bF rfl (by decide) ?_))
    exact Wp.r rfl (Or.inl rfl) h
  | 8, _, _ =>
    rw [bI_f (by decide)] at h
    (repeat (first | refine Wp.p rfl ?_ | refine Wp.bT rfl (by decide) ?_ | refine Wp.bF rfl (by decide) ?_))
    exact Wp.r rfl (Or.inl rfl) h
  | 9, _, _ =>
    rw [bI_f (by decide)] at h
    (repeat (first | refine Wp.p rfl ?_ | refine Wp.bT rfl (by decide) ?_ | refine Wp.bF rfl (by decide) ?_))
    exact Wp.r rfl (Or.inl rfl) h
  | t + 10, _, h9 => exact absurd h9 (by omega)
theorem s_m_isOf8 {d : Nat} {S : mS} {Q : mQ} : ∀ t, 1 ≤ t → t ≤ 9 → Q (some (.int (bI (hB (m_sv 500 8) (nI t))))) S → Ev d n_X6_isOf [.int (nI t), .int (nI 8)] S Q := by
  intro t h1 h9 h
  match t, h1, h9 with
  | 0, h1, _ => exact absurd h1 (by omega)
  | 1, _, _ =>
    rw [bI_f (by decide)] at h
    (repeat (first | refine Wp.p rfl ?_ | refine Wp.bT rfl (by decide) ?_ | refine Wp.bF rfl (by decide) ?_))
    exact Wp.r rfl (Or.inl rfl) h
  | 2, _, _ =>
    rw [bI_f (by decide)] at h
    (repeat (first | refine Wp.p rfl ?_ | refine Wp.bT rfl (by decide) ?_ | refine Wp.bF rfl (by decide) ?_))
    exact Wp.r rfl (Or.inl rfl) h
  | 3, _, _ =>
    rw [bI_f (by decide)] at h
    (repeat (first | refine Wp.p rfl ?_ | refine Wp.bT rfl (by decide) ?_ | refine Wp.bF rfl (by decide) ?_))
    exact Wp.r rfl (Or.inl rfl) h
  | 4, _, _ =>
    rw [bI_f (by decide)] at h
    (repeat (first | refine Wp.p rfl ?_ | refine Wp.bT rfl (by decide) ?_ | refine Wp.bF rfl (by decide) ?_))
    exact Wp.r rfl (Or.inl rfl) h
  | 5, _, _ =>
    rw [bI_f (by decide)] at h
    (repeat (first | refine Wp.p rfl ?_ | refine Wp.bT rfl (by decide) ?_ | refine Wp.bF rfl (by decide) ?_))
    exact Wp.r rfl (Or.inl rfl) h
  | 6, _, _ =>
    rw [bI_f (by decide)] at h
    (repeat (first | refine Wp.p rfl ?_ | refine Wp.bT rfl (by decide) ?_ | refine Wp.bF rfl (by decide) ?_))
    exact Wp.r rfl (Or.inl rfl) h
  | 7, _, _ =>
    rw [bI_t (by decide)] at h
    (repeat (first | refine Wp.p rfl ?_ | refine Wp.bT rfl (by decide) ?_ | refine Wp.bF rfl (by decide) ?_))
    exact Wp.r rfl (Or.inr rfl) h
  | 8, _, _ =>
    rw [bI_t (by decide)] at h
    (repeat (first | refine Wp.p rfl ?_ | refine Wp.bT rfl (by decide) ?_ | refine Wp.bF rfl (by decide) ?_))
    exact Wp.r rfl (Or.inr rfl) h
  | 9, _, _ =>
    rw [bI_f (by decide)] at h
    (repeat (first | refine Wp.p rfl ?_ | refine Wp.bT rfl (by decide) ?_ | refine Wp.bF rfl (by decide) ?_))
    exact Wp.r rfl (Or.inl rfl) h
  | t + 10, _, h9 => exact absurd h9 (by omega)
theorem s_m_isOf9 {d : Nat} {S : mS} {Q : mQ} : ∀ t, 1 ≤ t → t ≤ 9 → Q (some (.int (bI (hB (m_sv 500 9) (nI t))))) S → Ev d n_X6_isOf [.int (nI t), .int (nI 9)] S Q := by
  intro t h1 h9 h
  match t, h1, h9 with
  | 0, h1, _ => exact absurd h1 (by omega)
  | 1, _, _ =>
    rw [bI_f (by decide)] at h
    (repeat (first | refine Wp.p rfl ?_ | refine Wp.bT rfl (by decide) ?_ | refine Wp.bF rfl (by decide) ?_))
    exact Wp.r rfl (Or.inl rfl) h
  | 2, _, _ =>
    rw [bI_f (by decide)] at h
    (repeat (first | refine Wp.p rfl ?_ | refine Wp.bT rfl (by decide) ?_ | refine Wp.bF rfl (by decide) ?_))
    exact Wp.r rfl (Or.inl rfl) h
  | 3, _, _ =>
    rw [bI_f (by decide)] at h
    (repeat (first | refine Wp.p rfl ?_ | refine Wp.bT rfl (by decide) ?_ | refine Wp.bF rfl (by decide) ?_))
    exact Wp.r rfl (Or.inl rfl) h
  | 4, _, _ =>
    rw [bI_f (by decide)] at h
    (repeat (first | refine Wp.p rfl ?_ | refine Wp.bT rfl (by decide) ?_ | refine Wp.bF rfl (by decide) ?_))
    exact Wp.r rfl (Or.inl rfl) h
  | 5, _, _ =>
    rw [bI_f (by decide)] at h
    (repeat (first | refine Wp.p rfl ?_ | refine Wp.bT rfl (by decide) ?_ | refine Wp.bF rfl (by decide) ?_))
    exact Wp.r rfl (Or.inl rfl) h
  | 6, _, _ =>
    rw [bI_f (by decide)] at h
    (repeat (first | refine Wp.p rfl ?_ | refine Wp.bT rfl (by decide) ?_ | refine Wp.bF rfl (by decide) ?_))
    exact Wp.r rfl (Or.inl rfl) h
  | 7, _, _ =>
    rw [bI_f (by decide)] at h
    (repeat (first | refine Wp.p rfl ?_ | refine Wp.bT rfl (by decide) ?_ | refine Wp.bF rfl (by decide) ?_))
    exact Wp.r rfl (Or.inl rfl) h
  | 8, _, _ =>
    rw [bI_t (by decide)] at h
    (repeat (first | refine Wp.p rfl ?_ | refine Wp.bT rfl (by decide) ?_ | refine Wp.bF rfl (by decide) ?_))
    exact Wp.r rfl (Or.inr rfl) h
  | 9, _, _ =>
    rw [bI_f (by decide)] at h
    (repeat (first | refine Wp.p rfl ?_ | refine Wp.bT rfl (by decide) ?_ | refine Wp.bF rfl (by decide) ?_))
    exact Wp.r rfl (Or.inl rfl) h
  | t + 10, _, h9 => exact absurd h9 (by omega)
theorem s_m_isOf10 {d : Nat} {S : mS} {Q : mQ} : ∀ t, 1 ≤ t → t ≤ 9 → Q (some (.int (bI (hB (m_sv 500 10) (nI t))))) S → Ev d n_X6_isOf [.int (nI t), .int (nI 10)] S Q := by
  intro t h1 h9 h
  match t, h1, h9 with
  | 0, h1, _ => exact absurd h1 (by omega)
  | 1, _, _ =>
    rw [bI_f (by decide)] at h
    (repeat (first | refine Wp.p rfl ?_ | refine Wp.bT rfl (by decide) ?_ | refine Wp.bF rfl (by decide) ?_))
    exact Wp.r rfl (Or.inl rfl) h
  | 2, _, _ =>
    rw [bI_f (by decide)] at h
    (repeat (first | refine Wp.p rfl ?_ | refine Wp.bT rfl (by decide) ?_ | refine Wp.bF rfl (by decide) ?_))
    exact Wp.r rfl (Or.inl rfl) h
  | 3, _, _ =>
    rw [bI_f (by decide)] at h
    (repeat (first | refine Wp.p rfl ?_ | refine Wp.bT rfl (by decide) ?_ | refine Wp.bF rfl (by decide) ?_))
    exact Wp.r rfl (Or.inl rfl) h
  | 4, _, _ =>
    rw [bI_f (by decide)] at h
    (repeat (first | refine Wp.p rfl ?_ | refine Wp.bT rfl (by decide) ?_ | refine Wp.bF rfl (by decide) ?_))
    exact Wp.r rfl (Or.inl rfl) h
  | 5, _, _ =>
    rw [bI_f (by decide)] at h
    (repeat (first | refine Wp.p rfl ?_ | refine Wp.bT rfl (by decide) ?_ | refine Wp.bF rfl (by decide) ?_))
    exact Wp.r rfl (Or.inl rfl) h
  | 6, _, _ =>
    rw [bI_f (by decide)] at h
    (repeat (first | refine Wp.p rfl ?_ | refine Wp.bT rfl (by decide) ?_ | refine Wp.bF rfl (by decide) ?_))
    exact Wp.r rfl (Or.inl rfl) h
  | 7, _, _ =>
    rw [bI_f (by decide)] at h
    (repeat (first | refine Wp.p rfl ?_ | refine Wp.bT rfl (by decide) ?_ | refine Wp.bF rfl (by decide) ?_))
    exact Wp.r rfl (Or.inl rfl) h
  | 8, _, _ =>
    rw [bI_f (by decide)] at h
    (repeat (first | refine Wp.p rfl ?_ | refine Wp.bT rfl (by decide) ?_ | refine Wp.bF rfl (by decide) ?_))
    exact Wp.r rfl (Or.inl rfl) h
  | 9, _, _ =>
    rw [bI_t (by decide)] at h
    (repeat (first | refine Wp.p rfl ?_ | refine Wp.bT rfl (by decide) ?_ | refine Wp.bF rfl (by decide) ?_))
    exact Wp.r rfl (Or.inr rfl) h
  | t + 10, _, h9 => exact absurd h9 (by omega)
theorem s_m_isOf {d : Nat} {S : mS} {Q : mQ} : ∀ ty, ty < 11 → ∀ t, 1 ≤ t → t ≤ 9 → Q (some (.int (bI (hB (m_sv 500 ty) (nI t))))) S → Ev d n_X6_isOf [.int (nI t), .int (nI ty)] S Q := by
  intro ty hty
  match ty, hty with
  | 0, _ => exact s_m_isOf0
  | 1, _ => exact s_m_isOf1
  | 2, _ => exact s_m_isOf2
  | 3, _ => exact s_m_isOf3
  | 4, _ => exact s_m_isOf4
  | 5, _ => exact s_m_isOf5
  | 6, _ => exact s_m_isOf6
  | 7, _ => exact s_m_isOf7
  | 8, _ => exact s_m_isOf8
  | 9, _ => exact s_m_isOf9
  | 10, _ => exact s_m_isOf10
  | ty + 11, hty => exact absurd hty (by omega)
/-- a variable of the model: nothing, or one of the objects, of a kind -/
theorem dv_c {k0 : Nat} {m : mM} {r : Int32} (hW : WFk k0 m) (hr : vr k0 r) : (r = -1 ∧ kd m r = 0) ∨ ∃ j t, j < k0 ∧ k0 ≤ 40 ∧ r = nI j ∧ 1 ≤ t ∧ t ≤ 9 ∧ gK m j = nI t ∧ kd m r = nI t := by
  rcases hr with rfl | ⟨j, hj, rfl⟩
  · exact Or.inl ⟨rfl, by unfold kd; rw [if_neg m1_lt0, if_neg (by decide)]⟩
  · obtain ⟨⟨t, t1, t9, ht⟩, -⟩ := hW.2.2.2 j hj
    have hk := hW.1
    exact Or.inr ⟨j, t, hj, hk, rfl, t1, t9, ht, by rw [kd_j (by omega), ht]⟩
theorem nI_n0 {j : Nat} (h : j < 2 ^ 31) : ¬ nI j < 0 := Int32.not_lt.mpr (nI_pos' h)
theorem s_m_kind {d k0 : Nat} {S : mS} {Q : mQ} {v : Int32} (hW : WFk k0 (dV S)) (hv : 0 ≤ v ∧ v < 6) (h : Q (some (.int (kd (dV S) (S.2.2 361 (tn v))))) S) : Ev d n_X6_kind [.ref 6, .int v] S Q := by
  have hi := inV hv
  repeat refine Wp.p rfl ?_
  refine Wp.g rfl hi ?_
  rcases dv_c hW (wf_ref hW hv) with ⟨er, ek⟩ | ⟨j, t, hj, hk, er, t1, t9, ht, ek⟩
  · have er' : S.2.2 361 (tn v) = -1 := er
    refine Wp.b rfl (fun (c : 0 ≤ S.2.2 361 (tn v)) => absurd (er' ▸ c) m1_lt0) (fun _ => ?_)
    repeat refine Wp.p rfl ?_
    rw [show kd (dV S) (S.2.2 361 (tn v)) = 0 from ek] at h
    exact Wp.r rfl trivial h
  · have er' : S.2.2 361 (tn v) = nI j := er
    refine Wp.b rfl (fun _ => ?_) (fun (c : ¬ 0 ≤ S.2.2 361 (tn v)) => absurd (by rw [er']; exact nI_pos' (by omega)) c)
    repeat refine Wp.p rfl ?_
    refine Wp.g rfl hi ?_
    refine Wp.g rfl (show vp_in (S.2.2 361 (tn v)) 500 by rw [er']; exact vp_in_nI (by omega) (by omega)) ?_
    refine Wp.r rfl trivial ?_
    show Q (some (.int (S.2.2 357 (tn (S.2.2 361 (tn v)))))) S
    rw [show kd (dV S) (S.2.2 361 (tn v)) = nI t from ek] at h
    rw [er', tn_nI (by omega), show S.2.2 357 j = nI t from ht]
    exact h
theorem s_m_isWrong {d k0 ty : Nat} {S : mS} {Q : mQ} {v : Int32} (hW : WFk k0 (dV S)) (hv : 0 ≤ v ∧ v < 6) (hty : ty < 11) (h : Q (some (.int (bI (¬ kd (dV S) (S.2.2 361 (tn v)) = 0 ∧ ¬ hB (m_sv 500 ty) (kd (dV S) (S.2.2 361 (tn v))))))) S) : Ev (d + 1) n_X6_isWrong [.ref 6, .int v, .int (nI ty)] S Q := by
  have hi := inV hv
  repeat refine Wp.p rfl ?_
  refine Wp.g rfl hi ?_
  rcases dv_c hW (wf_ref hW hv) with ⟨er, ek⟩ | ⟨j, t, hj, hk, er, t1, t9, ht, ek⟩
  · have er' : S.2.2 361 (tn v) = -1 := er
    refine Wp.b rfl (fun _ => ?_) (fun (c : ¬ S.2.2 361 (tn v) < 0) => absurd (by rw [er']; decide) c)
    repeat refine Wp.p rfl ?_
    rw [bI_f (fun z => z.1 ek)] at h
    exact Wp.r rfl (Or.inl rfl) h
  · have er' : S.2.2 361 (tn v) = nI j := er
    refine Wp.b rfl (fun (c : S.2.2 361 (tn v) < 0) => absurd (er' ▸ c) (nI_n0 (by omega))) (fun _ => ?_)
    repeat refine Wp.p rfl ?_
    refine Wp.g rfl hi ?_
    refine Wp.g rfl (show vp_in (S.2.2 361 (tn v)) 500 by rw [er']; exact vp_in_nI (by omega) (by omega)) ?_
    repeat refine Wp.p rfl ?_
    have ek' : kd (dV S) (S.2.2 361 (tn v)) = nI t := ek
    have nz : ¬ nI t = 0 := fun e => by have := (nI_eq (a := t) (b := 0) (by omega) (by decide)).mp e; omega
    show Wp (d + 1) n_X6_isWrong 21 _ [.int (nI ty), .int (S.2.2 357 (tn (S.2.2 361 (tn v))))] S Q
    rw [er', tn_nI (by omega), show S.2.2 357 j = nI t from ht]
    refine Wp.i rfl (s_m_isOf ty hty t t1 t9 ?_)
    rw [ek'] at h
    by_cases hb : hB (m_sv 500 ty) (nI t)
    · rw [bI_t hb]
      refine Wp.b rfl (fun _ => ?_) (fun (e : ¬ ¬ (1 : Int32) = 0) => absurd (by decide) e)
      repeat refine Wp.p rfl ?_
      rw [bI_f (fun z => z.2 hb)] at h
      exact Wp.r rfl (Or.inl rfl) h
    · rw [bI_f hb]
      refine Wp.b rfl (fun (e : ¬ (0 : Int32) = 0) => absurd rfl e) (fun _ => ?_)
      repeat refine Wp.p rfl ?_
      rw [bI_t ⟨nz, hb⟩] at h
      exact Wp.r rfl (Or.inr rfl) h
theorem s_m_newObject {d o : Nat} {S : mS} {Q : mQ} {k : Int32} (ho : o < 40) (hm : S.1 256 = nI o) (h : Q (some (.int (nI o))) (sF (sA (sA (sA S 357 o k) 358 o (-1)) 359 o 0) 256 (nI (o + 1)))) : Ev d n_X6_newObject [.ref 6, .int k] S Q := by
  have hin : vp_in (S.1 256) 500 := by rw [hm]; exact vp_in_nI (by omega) (by omega)
  repeat refine Wp.p rfl ?_
  refine Wp.g rfl hin ?_
  repeat refine Wp.p rfl ?_
  refine Wp.g rfl hin ?_
  repeat refine Wp.p rfl ?_
  refine Wp.g rfl hin ?_
  repeat refine Wp.p rfl ?_
  refine Wp.r rfl trivial ?_
  show Q (some (.int (S.1 256 + 1 - 1))) (sF (sA (sA (sA S 357 (tn (S.1 256)) k) 358 (tn (S.1 256)) (-1)) 359 (tn (S.1 256)) 0) 256 (S.1 256 + 1))
  rw [hm, nI_1, nI_pred, tn_nI (by omega)]
  exact h
theorem ix20' (a b : Nat) : 20 * nI a + nI b = nI (20 * a + b) := by
  rw [show (20 : Int32) = nI 20 from rfl, pk_mul, nI_add]
theorem fstC_eq (k : Int32) (hk : 5 ≤ k ∧ k ≤ 9) : fstC k = (if k = 9 then -2 else if k = 5 ∨ k = 6 then 0 else -1) := by
  obtain ⟨t, t1, t2, rfl⟩ := of_rng (lo := 5) (hi := 9) rfl rfl (by decide) (by decide) hk.1 hk.2
  match t, t1, t2 with
  | 5, _, _ => decide
  | 6, _, _ => decide
  | 7, _, _ => decide
  | 8, _, _ => decide
  | 9, _, _ => decide
theorem s_m_fill {d o n : Nat} {Q : mQ} {k : Int32} (hk : 5 ≤ k ∧ k ≤ 9) (ho : o < 40) (hn : n ≤ 20) (S0 : mS) (hQ : ∀ S', Fr [] [360] S0 S' → S'.2.2 360 = fillC (S0.2.2 360) (20 * o) (fstC k) n → Q (some (.int (nI o))) S') : ∀ (r j : Nat) (S : mS), j + r = n → Fr [] [360] S0 S → S.2.2 360 = fillC (S0.2.2 360) (20 * o) (fstC k) j →
    Wp d n_X6_newArray 16 [(4, .int (nI j)), (3, .int (nI o)), (0, .ref 6), (1, .int k), (2, .int (nI n))] [] S Q := by
  intro r
  induction r with
  | zero =>
    intro j S hj hF hC
    obtain rfl : j = n := by omega
    iterate 2 refine Wp.p rfl ?_
    refine Wp.b rfl (fun _ => ?_) (fun c => absurd (nI_le (Nat.le_refl _) (by omega)) c)
    repeat refine Wp.p rfl ?_
    exact Wp.r rfl trivial (hQ S hF hC)
  | succ r ih =>
    intro j S hj hF hC
    have hlt : j < n := by omega
    have hin : vp_in (20 * nI o + nI j) 10000 := by rw [ix20']; exact vp_in_nI (by omega) (by omega)
    have fin : ∀ x : Int32, x = fstC k → Wp d n_X6_newArray 60 [(4, .int (nI j)), (3, .int (nI o)), (0, .ref 6), (1, .int k), (2, .int (nI n))] [.int x, .int (20 * nI o + nI j), .ref 360] S Q := fun x hx => by
      refine Wp.g rfl hin ?_
      iterate 2 refine Wp.p rfl ?_
      show Wp d n_X6_newArray 16 [(4, .int (nI j + 1)), (3, .int (nI o)), (0, .ref 6), (1, .int k), (2, .int (nI n))] [] (sA S 360 (tn (20 * nI o + nI j)) x) Q
      rw [nI_1, ix20', tn_nI (by omega)]
      refine ih (j + 1) _ (by omega) (hF.a (by decide)) ?_
      show upd (S.2.2 360) (20 * o + j) x = _
      rw [hC, hx]
      rfl
    have ef := fstC_eq k hk
    iterate 2 refine Wp.p rfl ?_
    refine Wp.b rfl (fun c => absurd c (nI_ge hlt (by omega))) (fun _ => ?_)
    repeat refine Wp.p rfl ?_
    refine Wp.b rfl (fun (c : ¬ k = 9) => ?_) (fun (c : ¬ ¬ k = 9) => ?_)
    · rw [if_neg c] at ef
      repeat refine Wp.p rfl ?_
      refine Wp.b rfl (fun (c5 : k = 5) => ?_) (fun (c5 : ¬ k = 5) => ?_)
      · rw [if_pos (Or.inl c5)] at ef
        iterate 2 refine Wp.p rfl ?_
        exact fin 0 ef.symm
      · repeat refine Wp.p rfl ?_
        refine Wp.b rfl (fun (c6 : ¬ k = 6) => ?_) (fun (c6 : ¬ ¬ k = 6) => ?_)
        · rw [if_neg (fun z => z.elim c5 c6)] at ef
          iterate 1 refine Wp.p rfl ?_
          exact fin (-1) ef.symm
        · rw [if_pos (Or.inr (Decidable.not_not.mp c6))] at ef
          iterate 2 refine Wp.p rfl ?_
          exact fin 0 ef.symm
    · rw [if_pos (Decidable.not_not.mp c)] at ef
      iterate 2 refine Wp.p rfl ?_
      exact fin (-2) ef.symm
theorem upd_upd (f : Nat → Int32) (i : Nat) (x y : Int32) : upd (upd f i x) i y = upd f i y := by
  funext q
  show (if q = i then y else upd f i x q) = (if q = i then y else f q)
  split
  · rfl
  · next e => exact if_neg e
theorem s_m_newArray {d o n : Nat} {S : mS} {Q : mQ} {k : Int32} (hk : 5 ≤ k ∧ k ≤ 9) (ho : o < 40) (hn : n ≤ 20) (hm : S.1 256 = nI o) (h : ∀ S', Fr [256] [357, 358, 359, 360] S S' → S'.1 256 = nI (o + 1) → S'.2.2 357 = upd (S.2.2 357) o k → S'.2.2 358 = upd (S.2.2 358) o (-1) → S'.2.2 359 = upd (S.2.2 359) o (nI n) → S'.2.2 360 = fillC (S.2.2 360) (20 * o) (fstC k) n → Q (some (.int (nI o))) S') : Ev (d + 1) n_X6_newArray [.ref 6, .int k, .int (nI n)] S Q := by
  repeat refine Wp.p rfl ?_
  refine Wp.i rfl (s_m_newObject ho hm ?_)
  repeat refine Wp.p rfl ?_
  refine Wp.g rfl (vp_in_nI (N := 500) (by omega) (by omega)) ?_
  rw [nI_clamp (show o < 2 ^ 31 by omega)]
  iterate 2 refine Wp.p rfl ?_
  refine s_m_fill hk ho hn _ (fun S' hF hC => h S' ?_ ?_ ?_ ?_ ?_ ?_) n 0 _ (by omega) Fr.rf rfl
  · exact ((((((Fr.rf (S := S)).a (by decide)).a (by decide)).a (by decide)).f (by decide)).a (by decide)).tr (hF.up (by decide) (by decide))
  · exact hF.1 256 (by decide)
  · exact hF.2.2 357 (by decide)
  · exact hF.2.2 358 (by decide)
  · rw [hF.2.2 359 (by decide)]
    exact upd_upd _ _ _ _
  · exact hC
theorem s_m_isCell {d : Nat} {S : mS} {Q : mQ} {o x : Int32} {n : Nat} (ho : vp_in o 500) (hn : S.2.2 359 (tn o) = nI n) (hn2 : n ≤ 20) (h : Q (some (.int (bI (0 ≤ x ∧ x < nI n)))) S) : Ev (d + 1) n_X6_isCell [.ref 6, .int o, .int x] S Q := by
  repeat refine Wp.p rfl ?_
  refine Wp.g rfl ho ?_
  repeat refine Wp.p rfl ?_
  refine Wp.i rfl (s_m_in (x := x) (lo := 0) (hi := S.2.2 359 (tn o) - 1) rfl rfl ?_)
  have e : bI (0 ≤ x ∧ x ≤ S.2.2 359 (tn o) - 1) = bI (0 ≤ x ∧ x < nI n) := by
    rw [hn]
    have hl : x ≤ nI n - 1 ↔ x < nI n := by
      rw [Int32.le_iff_toInt_le, Int32.lt_iff_toInt_lt, nI_toInt (by omega)]
      cases n with
      | zero => rw [show (nI 0 - 1 : Int32).toInt = -1 from by decide]; omega
      | succ n => rw [nI_pred, nI_toInt (by omega)]; omega
    by_cases c : 0 ≤ x ∧ x < nI n
    · rw [bI_t c, bI_t ⟨c.1, hl.mpr c.2⟩]
    · rw [bI_f c, bI_f (fun z => c ⟨z.1, hl.mp z.2⟩)]
  rw [e]
  exact Wp.r rfl bI_01 h
theorem s_m_tag {d : Nat} {S : mS} {Q : mQ} {r z : Int32} {m : mM} (hz : z = 0 ∨ z = 1) (ho : vp_in r 500) (ek : S.2.2 357 (tn r) = kd m r) (h : Q (some (.int (faceN m r (decide (z = 1))))) S) : Ev d n_X6_tag [.ref 6, .int r, .int z] S Q := by
  unfold faceN at h
  repeat refine Wp.p rfl ?_
  refine Wp.g rfl ho ?_
  repeat refine Wp.p rfl ?_
  refine Wp.b rfl (fun (c : ¬ S.2.2 357 (tn r) = 2) => ?_) (fun (c : ¬ ¬ S.2.2 357 (tn r) = 2) => ?_)
  · rw [ek] at c
    repeat refine Wp.p rfl ?_
    rw [if_neg c, if_neg c] at h
    rcases hz with rfl | rfl
    · refine Wp.b rfl (fun (e : ¬ (0 : Int32) = 0) => absurd rfl e) (fun _ => ?_)
      repeat refine Wp.p rfl ?_
      exact Wp.r rfl trivial h
    · refine Wp.b rfl (fun _ => ?_) (fun (e : ¬ ¬ (1 : Int32) = 0) => absurd (by decide) e)
      repeat refine Wp.p rfl ?_
      refine Wp.g rfl ho ?_
      repeat refine Wp.p rfl ?_
      refine Wp.b rfl (fun _ => ?_) (fun (c2 : ¬ ¬ S.2.2 357 (tn r) = 2) => absurd (by rw [ek]; exact c) c2)
      repeat refine Wp.p rfl ?_
      exact Wp.r rfl trivial h
  · rw [ek] at c
    have c' := Decidable.not_not.mp c
    repeat refine Wp.p rfl ?_
    rw [if_pos c', if_pos c', Int32.add_zero] at h
    rcases hz with rfl | rfl
    · refine Wp.b rfl (fun (e : ¬ (0 : Int32) = 0) => absurd rfl e) (fun _ => ?_)
      repeat refine Wp.p rfl ?_
      exact Wp.r rfl trivial h
    · refine Wp.b rfl (fun _ => ?_) (fun (e : ¬ ¬ (1 : Int32) = 0) => absurd (by decide) e)
      repeat refine Wp.p rfl ?_
      refine Wp.g rfl ho ?_
      repeat refine Wp.p rfl ?_
      refine Wp.b rfl (fun (c2 : ¬ S.2.2 357 (tn r) = 2) => absurd (by rw [ek]; exact c') c2) (fun _ => ?_)
      repeat refine Wp.p rfl ?_
      exact Wp.r rfl trivial h
