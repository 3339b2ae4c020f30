def m_cdB (c : Jvm.ClassFile.Cond) (x y : Int32) : Bool := match c with
  | .eq => decide (x = y)
  | .ne => decide (¬ x = y)
  | .lt => decide (x < y)
  | .ge => decide (y ≤ x)
  | .gt => decide (y < x)
  | .le => decide (x ≤ y)
theorem m_cdB_t {c : Jvm.ClassFile.Cond} {x y : Int32} (h : m_cdB c x y = true) : m_cd c x y := by cases c <;> simpa [m_cdB, m_cd] using h
theorem m_cdB_f {c : Jvm.ClassFile.Cond} {x y : Int32} (h : m_cdB c x y = false) : ¬ m_cd c x y := by cases c <;> simpa [m_cdB, m_cd] using h
theorem Wp.bT {d M pc t nx : Nat} {ls : mL} {st r : List Value} {S : mS} {Q : mQ} {c : Jvm.ClassFile.Cond} {x y : Int32} (h : m_bc M pc ls st S = some (m_cd c x y, t, nx, r)) (hb : m_cdB c x y = true) (k : Wp d M t ls r S Q) : Wp d M pc ls st S Q := Wp.b h (fun _ => k) (fun q => absurd (m_cdB_t hb) q)
theorem Wp.bF {d M pc t nx : Nat} {ls : mL} {st r : List Value} {S : mS} {Q : mQ} {c : Jvm.ClassFile.Cond} {x y : Int32} (h : m_bc M pc ls st S = some (m_cd c x y, t, nx, r)) (hb : m_cdB c x y = false) (k : Wp d M nx ls r S Q) : Wp d M pc ls st S Q := Wp.b h (fun q => absurd q (m_cdB_f hb)) (fun _ => k)
theorem i64_le {x y : Int32} : x.toInt64 ≤ y.toInt64 ↔ x ≤ y := by
  rw [Int64.le_iff_toInt_le, Int32.le_iff_toInt_le, Int32.toInt_toInt64, Int32.toInt_toInt64]
theorem s_m_in {d : Nat} {S : mS} {Q : mQ} {x lo hi : Int32} {L0 H0 : Int64} (el : L0 = lo.toInt64) (eh : H0 = hi.toInt64) (h : Q (some (.int (bI (lo ≤ x ∧ x ≤ hi)))) S) : Ev d n_X6_in [.long x.toInt64, .long L0, .long H0] S Q := by
  subst el
  subst eh
  repeat refine Wp.p rfl ?_
  refine Wp.b rfl (fun (c : lg_cmp x.toInt64 lo.toInt64 < 0) => ?_) (fun (c : ¬ lg_cmp x.toInt64 lo.toInt64 < 0) => ?_)
  · rw [bI_f (fun z => Int64.not_le.mpr ((lg_cmp_lt _ _).mp c) (i64_le.mpr z.1))] at h
    repeat refine Wp.p rfl ?_
    exact Wp.r rfl (Or.inl rfl) h
  · repeat refine Wp.p rfl ?_
    refine Wp.b rfl (fun (c2 : 0 < lg_cmp x.toInt64 hi.toInt64) => ?_) (fun (c2 : ¬ 0 < lg_cmp x.toInt64 hi.toInt64) => ?_)
    · rw [bI_f (fun z => Int64.not_le.mpr ((lg_cmp_gt _ _).mp c2) (i64_le.mpr z.2))] at h
      repeat refine Wp.p rfl ?_
      exact Wp.r rfl (Or.inl rfl) h
    · rw [bI_t ⟨i64_le.mp (Int64.not_lt.mp (fun z => c ((lg_cmp_lt _ _).mpr z))), i64_le.mp (Int64.not_lt.mp (fun z => c2 ((lg_cmp_gt _ _).mpr z)))⟩] at h
      repeat refine Wp.p rfl ?_
      exact Wp.r rfl (Or.inr rfl) h
def srA : List Int32 := [1, 1, 1, 1, 1, 1, 1, 1, 1, 1, 1, 2, 2, 2, 2, 1, 2, 2, 2, 2, 3, 0, 1, 2]
theorem s_m_sortA {d : Nat} {S : mS} {Q : mQ} : ∀ k, k < 24 → Q (some (.int (srA.getD k 0))) S → Ev d n_X6_sortA [.int (nI k)] S Q := by
  intro k hk h
  match k, hk with
  | 0, _ =>
    (repeat (first | refine Wp.p rfl ?_ | refine Wp.bT rfl (by decide) ?_ | refine Wp.bF rfl (by decide) ?_))
    exact Wp.r rfl trivial h
  | 1, _ =>
    (repeat (first | refine Wp.p rfl ?_ | refine Wp.bT rfl (by decide) ?_ | refine Wp.bF rfl (by decide) ?_))
    exact Wp.r rfl trivial h
  | 2, _ =>
    (repeat (first | refine Wp.p rfl ?_ | refine Wp.bT rfl (by decide) ?_ | refine Wp.bF rfl (by decide) ?_))
    exact Wp.r rfl trivial h
  | 3, _ =>
    (repeat (first | refine Wp.p rfl ?_ | refine Wp.bT rfl (by decide) ?_ | refine Wp.bF rfl (by decide) ?_))
    exact Wp.r rfl trivial h
  | 4, _ =>
    (repeat (first | refine Wp.p rfl ?_ | refine Wp.bT rfl (by decide) ?_ | refine Wp.bF rfl (by decide) ?_))
    exact Wp.r rfl trivial h
  | 5, _ =>
    (repeat (first | refine Wp.p rfl ?_ | refine Wp.bT rfl (by decide) ?_ | refine Wp.bF rfl (by decide) ?_))
    exact Wp.r rfl trivial h
  | 6, _ =>
    (repeat (first | refine Wp.p rfl ?_ | refine Wp.bT rfl (by decide) ?_ | refine Wp.bF rfl (by decide) ?_))
    exact Wp.r rfl trivial h
  | 7, _ =>
    (repeat (first | refine Wp.p rfl ?_ | refine Wp.bT rfl (by decide) ?_ | refine Wp.bF rfl (by decide) ?_))
    exact Wp.r rfl trivial h
  | 8, _ =>
    (repeat (first | refine Wp.p rfl ?_ | refine Wp.bT rfl (by decide) ?_ | refine Wp.bF rfl (by decide) ?_))
    exact Wp.r rfl trivial h
  | 9, _ =>
    (repeat (first | refine Wp.p rfl ?_ | refine Wp.bT rfl (by decide) ?_ | refine Wp.bF rfl (by decide) ?_))
    exact Wp.r rfl trivial h
  | 10, _ =>
    (repeat (first | refine Wp.p rfl ?_ | refine Wp.bT rfl (by decide) ?_ | refine Wp.bF rfl (by decide) ?_))
    exact Wp.r rfl trivial h
  | 11, _ =>
    (repeat (first | refine Wp.p rfl ?_ | refine Wp.bT rfl (by decide) ?_ | refine Wp.bF rfl (by decide) ?_))
    exact Wp.r rfl trivial h
  | 12, _ =>
    (repeat (first | refine Wp.p rfl ?_ | refine Wp.bT rfl (by decide) ?_ | refine Wp.bF rfl (by decide) ?_))
    exact Wp.r rfl trivial h
  | 13, _ =>
    (repeat (first | refine Wp.p rfl ?_ | refine Wp.bT rfl (by decide) ?_ | refine Wp.bF rfl (by decide) ?_))
    exact Wp.r rfl trivial h
  | 14, _ =>
    (repeat (first | refine Wp.p rfl ?_ | refine Wp.bT rfl (by decide) ?_ | refine Wp.bF rfl (by decide) ?_))
    exact Wp.r rfl trivial h
  | 15, _ =>
    (repeat (first | refine Wp.p rfl ?_ | refine Wp.bT rfl (by decide) ?_ | refine Wp.bF rfl (by decide) ?_))
    exact Wp.r rfl trivial h
  | 16, _ =>
    (repeat (first | refine Wp.p rfl ?_ | refine Wp.bT rfl (by decide) ?_ | refine Wp.bF rfl (by decide) ?_))
    exact Wp.r rfl trivial h
  | 17, _ =>
    (repeat (first | refine Wp.p rfl ?_ | refine Wp.bT rfl (by decide) ?_ | refine Wp.bF rfl (by decide) ?_))
    exact Wp.r rfl trivial h
  | 18, _ =>
    (repeat (first | refine Wp.p rfl ?_ | refine Wp.bT rfl (by decide) ?_ | refine Wp.bF rfl (by decide) ?_))
    exact Wp.r rfl trivial h
  | 19, _ =>
    (repeat (first | refine Wp.p rfl ?_ | refine Wp.bT rfl (by decide) ?_ | refine Wp.bF rfl (by decide) ?_))
    exact Wp.r rfl trivial h
  | 20, _ =>
    (repeat (first | refine Wp.p rfl ?_ | refine Wp.bT rfl (by decide) ?_ | refine Wp.bF rfl (by decide) ?_))
    exact Wp.r rfl trivial h
  | 21, _ =>
    (repeat (first | refine Wp.p rfl ?_ | refine Wp.bT rfl (by decide) ?_ | refine Wp.bF rfl (by decide) ?_))
    exact Wp.r rfl trivial h
  | 22, _ =>
    (repeat (first | refine Wp.p rfl ?_ | refine Wp.bT rfl (by decide) ?_ | refine Wp.bF rfl (by decide) ?_))
    exact Wp.r rfl trivial h
  | 23, _ =>
    (repeat (first | refine Wp.p rfl ?_ | refine Wp.bT rfl (by decide) ?_ | refine Wp.bF rfl (by decide) ?_))
    exact Wp.r rfl trivial h
  | k + 24, hk => exact absurd hk (by omega)
def srB : List Int32 := [0, 4, 5, 1, 6, 0, 6, 1, 1, 1, 1, 1, 1, 1, 1, 2, 0, 2, 2, 2, 0, 0, 1, 0]
theorem s_m_sortB {d : Nat} {S : mS} {Q : mQ} : ∀ k, k < 24 → Q (some (.int (srB.getD k 0))) S → Ev d n_X6_sortB [.int (nI k)] S Q := by
  intro k hk h
  match k, hk with
  | 0, _ =>
    (repeat (first | refine Wp.p rfl ?_ | refine Wp.bT rfl (by decide) ?_ | refine Wp.bF rfl (by decide) ?_))
    exact Wp.r rfl trivial h
  | 1, _ =>
    (repeat (first | refine Wp.p rfl ?_ | refine Wp.bT rfl (by decide) ?_ | refine Wp.bF rfl (by decide) ?_))
    exact Wp.r rfl trivial h
  | 2, _ =>
    (repeat (first | refine Wp.p rfl ?_ | refine Wp.bT rfl (by decide) ?_ | refine Wp.bF rfl (by decide) ?_))
    exact Wp.r rfl trivial h
  | 3, _ =>
    (repeat (first | refine Wp.p rfl ?_ | refine Wp.bT rfl (by decide) ?_ | refine Wp.bF rfl (by decide) ?_))
    exact Wp.r rfl trivial h
  | 4, _ =>
    (repeat (first | refine Wp.p rfl ?_ | refine Wp.bT rfl (by decide) ?_ | refine Wp.bF rfl (by decide) ?_))
    exact Wp.r rfl trivial h
  | 5, _ =>
    (repeat (first | refine Wp.p rfl ?_ | refine Wp.bT rfl (by decide) ?_ | refine Wp.bF rfl (by decide) ?_))
    exact Wp.r rfl trivial h
  | 6, _ =>
    (repeat (first | refine Wp.p rfl ?_ | refine Wp.bT rfl (by decide) ?_ | refine Wp.bF rfl (by decide) ?_))
    exact Wp.r rfl trivial h
  | 7, _ =>
    (repeat (first | refine Wp.p rfl ?_ | refine Wp.bT rfl (by decide) ?_ | refine Wp.bF rfl (by decide) ?_))
    exact Wp.r rfl trivial h
  | 8, _ =>
    (repeat (first | refine Wp.p rfl ?_ | refine Wp.bT rfl (by decide) ?_ | refine Wp.bF rfl (by decide) ?_))
    exact Wp.r rfl trivial h
  | 9, _ =>
    (repeat (first | refine Wp.p rfl ?_ | refine Wp.bT rfl (by decide) ?_ | refine Wp.bF rfl (by decide) ?_))
    exact Wp.r rfl trivial h
  | 10, _ =>
    (repeat (first | refine Wp.p rfl ?_ | refine Wp.bT rfl (by decide) ?_ | refine Wp.bF rfl (by decide) ?_))
    exact Wp.r rfl trivial h
  | 11, _ =>
    (repeat (first | refine Wp.p rfl ?_ | refine Wp.bT rfl (by decide) ?_ | refine Wp.bF rfl (by decide) ?_))
    exact Wp.r rfl trivial h
  | 12, _ =>
    (repeat (first | refine Wp.p rfl ?_ | refine Wp.bT rfl (by decide) ?_ | refine Wp.bF rfl (by decide) ?_))
    exact Wp.r rfl trivial h
  | 13, _ =>
    (repeat (first | refine Wp.p rfl ?_ | refine Wp.bT rfl (by decide) ?_ | refine Wp.bF rfl (by decide) ?_))
    exact Wp.r rfl trivial h
  | 14, _ =>
    (repeat (first | refine Wp.p rfl ?_ | refine Wp.bT rfl (by decide) ?_ | refine Wp.bF rfl (by decide) ?_))
    exact Wp.r rfl trivial h
  | 15, _ =>
    (repeat (first | refine Wp.p rfl ?_ | refine Wp.bT rfl (by decide) ?_ | refine Wp.bF rfl (by decide) ?_))
    exact Wp.r rfl trivial h
  | 16, _ =>
    (repeat (first | refine Wp.p rfl ?_ | refine Wp.bT rfl (by decide) ?_ | refine Wp.bF rfl (by decide) ?_))
    exact Wp.r rfl trivial h
  | 17, _ =>
    (repeat (first | refine Wp.p rfl ?_ | refine Wp.bT rfl (by decide) ?_ | refine Wp.bF rfl (by decide) ?_))
    exact Wp.r rfl trivial h
  | 18, _ =>
    (repeat (first | refine Wp.p rfl ?_ | refine Wp.bT rfl (by decide) ?_ | refine Wp.bF rfl (by decide) ?_))
    exact Wp.r rfl trivial h
  | 19, _ =>
    (repeat (first | refine Wp.p rfl ?_ | refine Wp.bT rfl (by decide) ?_ | refine Wp.bF rfl (by decide) ?_))
    exact Wp.r rfl trivial h
  | 20, _ =>
    (repeat (first | refine Wp.p rfl ?_ | refine Wp.bT rfl (by decide) ?_ | refine Wp.bF rfl (by decide) ?_))
    exact Wp.r rfl trivial h
  | 21, _ =>
    (repeat (first | refine Wp.p rfl ?_ | refine Wp.bT rfl (by decide) ?_ | refine Wp.bF rfl (by decide) ?_))
    exact Wp.r rfl trivial h
  | 22, _ =>
    (repeat (first | refine Wp.p rfl ?_ | refine Wp.bT rfl (by decide) ?_ | refine Wp.bF rfl (by decide) ?_))
    exact Wp.r rfl trivial h
  | 23, _ =>
    (repeat (first | refine Wp.p rfl ?_ | refine Wp.bT rfl (by decide) ?_ | refine Wp.bF rfl (by decide) ?_))
    exact Wp.r rfl trivial h
  | k + 24, hk => exact absurd hk (by omega)
def srC : List Int32 := [0, 0, 2, 0, 3, 3, 1, 0, 0, 2, 2, 0, 0, 0, 2, 2, 0, 0, 0, 3, 0, 0, 2, 0]
theorem s_m_sortC {d : Nat} {S : mS} {Q : mQ} : ∀ k, k < 24 → Q (some (.int (srC.getD k 0))) S → Ev d n_X6_sortC [.int (nI k)] S Q := by
  intro k hk h
  match k, hk with
  | 0, _ =>
    (repeat (first | refine Wp.p rfl ?_ | refine Wp.bT rfl (by decide) ?_ | refine Wp.bF rfl (by decide) ?_))
    exact Wp.r rfl trivial h
  | 1, _ =>
    (repeat (first | refine Wp.p rfl ?_ | refine Wp.bT rfl (by decide) ?_ | refine Wp.bF rfl (by decide) ?_))
    exact Wp.r rfl trivial h
  | 2, _ =>
    (repeat (first | refine Wp.p rfl ?_ | refine Wp.bT rfl (by decide) ?_ | refine Wp.bF rfl (by decide) ?_))
    exact Wp.r rfl trivial h
  | 3, _ =>
    (repeat (first | refine Wp.p rfl ?_ | refine Wp.bT rfl (by decide) ?_ | refine Wp.bF rfl (by decide) ?_))
    exact Wp.r rfl trivial h
  | 4, _ =>
    (repeat (first | refine Wp.p rfl ?_ | refine Wp.bT rfl (by decide) ?_ | refine Wp.bF rfl (by decide) ?_))
    exact Wp.r rfl trivial h
  | 5, _ =>
    (repeat (first | refine Wp.p rfl ?_ | refine Wp.bT rfl (by decide) ?_ | refine Wp.bF rfl (by decide) ?_))
    exact Wp.r rfl trivial h
  | 6, _ =>
    (repeat (first | refine Wp.p rfl ?_ | refine Wp.bT rfl (by decide) ?_ | refine Wp.bF rfl (by decide) ?_))
    exact Wp.r rfl trivial h
  | 7, _ =>
    (repeat (first | refine Wp.p rfl ?_ | refine Wp.bT rfl (by decide) ?_ | refine Wp.bF rfl (by decide) ?_))
    exact Wp.r rfl trivial h
  | 8, _ =>
    (repeat (first | refine Wp.p rfl ?_ | refine Wp.bT rfl (by decide) ?_ | refine Wp.bF rfl (by decide) ?_))
    exact Wp.r rfl trivial h
  | 9, _ =>
    (repeat (first | refine Wp.p rfl ?_ | refine Wp.bT rfl (by decide) ?_ | refine Wp.bF rfl (by decide) ?_))
    exact Wp.r rfl trivial h
  | 10, _ =>
    (repeat (first | refine Wp.p rfl ?_ | refine Wp.bT rfl (by decide) ?_ | refine Wp.bF rfl (by decide) ?_))
    exact Wp.r rfl trivial h
  | 11, _ =>
    (repeat (first | refine Wp.p rfl ?_ | refine Wp.bT rfl (by decide) ?_ | refine Wp.bF rfl (by decide) ?_))
    exact Wp.r rfl trivial h
  | 12, _ =>
    (repeat (first | refine Wp.p rfl ?_ | refine Wp.bT rfl (by decide) ?_ | refine Wp.bF rfl (by decide) ?_))
    exact Wp.r rfl trivial h
  | 13, _ =>
    (repeat (first | refine Wp.p rfl ?_ | refine Wp.bT rfl (by decide) ?_ | refine Wp.bF rfl (by decide) ?_))
    exact Wp.r rfl trivial h
  | 14, _ =>
    (repeat (first | refine Wp.p rfl ?_ | refine Wp.bT rfl (by decide) ?_ | refine Wp.bF rfl (by decide) ?_))
    exact Wp.r rfl trivial h
  | 15, _ =>
    (repeat (first | refine Wp.p rfl ?_ | refine Wp.bT rfl (by decide) ?_ | refine Wp.bF rfl (by decide) ?_))
    exact Wp.r rfl trivial h
  | 16, _ =>
    (repeat (first | refine Wp.p rfl ?_ | refine Wp.bT rfl (by decide) ?_ | refine Wp.bF rfl (by decide) ?_))
    exact Wp.r rfl trivial h
  | 17, _ =>
    (repeat (first | refine Wp.p rfl ?_ | refine Wp.bT rfl (by decide) ?_ | refine Wp.bF rfl (by decide) ?_))
    exact Wp.r rfl trivial h
  | 18, _ =>
    (repeat (first | refine Wp.p rfl ?_ | refine Wp.bT rfl (by decide) ?_ | refine Wp.bF rfl (by decide) ?_))
    exact Wp.r rfl trivial h
  | 19, _ =>
    (repeat (first | refine Wp.p rfl ?_ | refine Wp.bT rfl (by decide) ?_ | refine Wp.bF rfl (by decide) ?_))
    exact Wp.r rfl trivial h
  | 20, _ =>
    (repeat (first | refine Wp.p rfl ?_ | refine Wp.bT rfl (by decide) ?_ | refine Wp.bF rfl (by decide) ?_))
    exact Wp.r rfl trivial h
  | 21, _ =>
    (repeat (first | refine Wp.p rfl ?_ | refine Wp.bT rfl (by decide) ?_ | refine Wp.bF rfl (by decide) ?_))
    exact Wp.r rfl trivial h
  | 22, _ =>
    (repeat (first | refine Wp.p rfl ?_ | refine Wp.bT rfl (by decide) ?_ | refine Wp.bF rfl (by decide) ?_))
    exact Wp.r rfl trivial h
  | 23, _ =>
    (repeat (first | refine Wp.p rfl ?_ | refine Wp.bT rfl (by decide) ?_ | refine Wp.bF rfl (by decide) ?_))
    exact Wp.r rfl trivial h
  | k + 24, hk => exact absurd hk (by omega)
/-- what the model's sorts ask is what the letters ask -/
def sortC (ch : Int32) : Int32 := if ch = 86 then 1 else if ch = 78 then 2 else if ch = 83 then 3 else if ch = 75 then 4 else if ch = 65 then 5 else if ch = 84 then 6 else 0
theorem sort_ch : ∀ k, k < 24 → srA.getD k 0 = sortC ((m_chs.getD 0 []).getD k 0) ∧ srB.getD k 0 = sortC ((m_chs.getD 1 []).getD k 0) ∧ srC.getD k 0 = sortC ((m_chs.getD 2 []).getD k 0) := by decide
theorem lt_le {v a b : Int32} {n : Int} (ha : a.toInt = n) (hb : b.toInt = n + 1) : v ≤ a ↔ v < b := by
  constructor
  · intro q
    have q' := Int32.le_iff_toInt_le.mp q
    exact Int32.lt_iff_toInt_lt.mpr (by rw [hb]; rw [ha] at q'; omega)
  · intro q
    have q' := Int32.lt_iff_toInt_lt.mp q
    exact Int32.le_iff_toInt_le.mpr (by rw [ha]; rw [hb] at q'; omega)
theorem lt_le6 {v : Int32} : (0 ≤ v ∧ v ≤ 5) ↔ (0 ≤ v ∧ v < 6) := and_congr_right (fun _ => lt_le (n := 5) (by decide) (by decide))
theorem lt_le4 {v : Int32} : (0 ≤ v ∧ v ≤ 3) ↔ (0 ≤ v ∧ v < 4) := and_congr_right (fun _ => lt_le (n := 3) (by decide) (by decide))
theorem lt_le11 {v : Int32} : (0 ≤ v ∧ v ≤ 10) ↔ (0 ≤ v ∧ v < 11) := and_congr_right (fun _ => lt_le (n := 10) (by decide) (by decide))
theorem s_m_isGood {d : Nat} {S : mS} {Q : mQ} {v : Int32} : ∀ ch : Int32, ch ∈ [(86 : Int32), 78, 75, 65, 84, 83, 45] → (fitL ch v → Q (some (.int 1)) S) → (¬ fitL ch v → Q (some (.int 0)) S) → Ev (d + 1) n_X6_isGood [.int (sortC ch), .int v] S Q := by
  intro ch hch h1 h0
  have no : ∀ (a b : Int32) (P : Prop), ¬ a = b → (a = b → P) := fun a b P h e => absurd e h
  have fin : ∀ (P : Prop) [Decidable P], (P → fitL ch v) → (fitL ch v → P) → ∀ pc ls, m_rc n_X6_isGood pc ls [.int (bI P)] S = some ((bI P = 0 ∨ bI P = 1), some (.int (bI P))) → Wp (d + 1) n_X6_isGood pc ls [.int (bI P)] S Q := by
    intro P _ p1 p2 pc ls hr
    by_cases c : P
    · refine Wp.r hr bI_01 ?_
      rw [bI_t c]
      exact h1 (p1 c)
    · refine Wp.r hr bI_01 ?_
      rw [bI_f c]
      exact h0 (fun z => c (p2 z))
  simp only [List.mem_cons, List.not_mem_nil, or_false] at hch
  rcases hch with rfl | rfl | rfl | rfl | rfl | rfl | rfl
  · refine Wp.p rfl ?_
    refine Wp.p (pc' := 40) rfl ?_
    repeat refine Wp.p rfl ?_
    refine Wp.i rfl (s_m_in (x := v) (lo := 0) (hi := 5) rfl rfl ?_)
    exact fin _ (fun c => ⟨fun _ => lt_le6.mp c, no _ _ _ (by decide), no _ _ _ (by decide), no _ _ _ (by decide), no _ _ _ (by decide), no _ _ _ (by decide)⟩) (fun z => lt_le6.mpr (z.1 rfl)) _ _ rfl
  · refine Wp.p rfl ?_
    refine Wp.p (pc' := 50) rfl ?_
    repeat refine Wp.p rfl ?_
    refine Wp.i rfl (s_m_in (x := v) (lo := 0) (hi := 3) rfl rfl ?_)
    exact fin _ (fun c => ⟨no _ _ _ (by decide), fun _ => lt_le4.mp c, no _ _ _ (by decide), no _ _ _ (by decide), no _ _ _ (by decide), no _ _ _ (by decide)⟩) (fun z => lt_le4.mpr (z.2.1 rfl)) _ _ rfl
  · refine Wp.p rfl ?_
    refine Wp.p (pc' := 70) rfl ?_
    repeat refine Wp.p rfl ?_
    refine Wp.i rfl (s_m_in (x := v) (lo := 1) (hi := 4) rfl rfl ?_)
    exact fin _ (fun c => ⟨no _ _ _ (by decide), no _ _ _ (by decide), fun _ => c, no _ _ _ (by decide), no _ _ _ (by decide), no _ _ _ (by decide)⟩) (fun z => z.2.2.1 rfl) _ _ rfl
  · refine Wp.p rfl ?_
    refine Wp.p (pc' := 80) rfl ?_
    repeat refine Wp.p rfl ?_
    refine Wp.i rfl (s_m_in (x := v) (lo := 5) (hi := 9) rfl rfl ?_)
    exact fin _ (fun c => ⟨no _ _ _ (by decide), no _ _ _ (by decide), no _ _ _ (by decide), fun _ => c, no _ _ _ (by decide), no _ _ _ (by decide)⟩) (fun z => z.2.2.2.1 rfl) _ _ rfl
  · refine Wp.p rfl ?_
    refine Wp.p (pc' := 92) rfl ?_
    repeat refine Wp.p rfl ?_
    refine Wp.i rfl (s_m_in (x := v) (lo := 0) (hi := 10) rfl rfl ?_)
    exact fin _ (fun c => ⟨no _ _ _ (by decide), no _ _ _ (by decide), no _ _ _ (by decide), no _ _ _ (by decide), fun _ => lt_le11.mp c, no _ _ _ (by decide)⟩) (fun z => lt_le11.mpr (z.2.2.2.2.1 rfl)) _ _ rfl
  · refine Wp.p rfl ?_
    refine Wp.p (pc' := 60) rfl ?_
    repeat refine Wp.p rfl ?_
    refine Wp.i rfl (s_m_in (x := v) (lo := 0) (hi := 32) rfl rfl ?_)
    exact fin _ (fun c => ⟨no _ _ _ (by decide), no _ _ _ (by decide), no _ _ _ (by decide), no _ _ _ (by decide), no _ _ _ (by decide), fun _ => c⟩) (fun z => z.2.2.2.2.2 rfl) _ _ rfl
  · refine Wp.p rfl ?_
    refine Wp.p (pc' := 102) rfl ?_
    repeat refine Wp.p rfl ?_
    exact Wp.r rfl (Or.inr rfl) (h1 ⟨no _ _ _ (by decide), no _ _ _ (by decide), no _ _ _ (by decide), no _ _ _ (by decide), no _ _ _ (by decide), no _ _ _ (by decide)⟩)
