theorem ch_in : ∀ g, g < 3 → ∀ k, k < 24 → (m_chs.getD g []).getD k 0 ∈ [(86 : Int32), 78, 75, 65, 84, 83, 45] := by decide
/-- a step that may come in -/
def okS (co a b c h : Int32) : Prop := (∃ k, co = nI k ∧ wS k a b c) ∧ -1 ≤ h ∧ h ≤ 32
theorem s_P_isInBounds {d : Nat} {S : mS} {Q : mQ} {co a b c h : Int32} (h1 : okS co a b c h → Q (some (.int 1)) S) (h0 : ¬ okS co a b c h → Q (some (.int 0)) S) : Ev (d + 4) n_X3_isInBounds [.int co, .int a, .int b, .int c, .int h] S Q := by
  have small : okS co a b c h → ∃ k, k < 24 ∧ co = nI k := fun z => by
    obtain ⟨⟨k, e, hw⟩, -⟩ := z
    exact ⟨k, hw.1, e⟩
  repeat refine Wp.p rfl ?_
  refine Wp.b rfl (fun (c1 : co < 0) => ?_) (fun (c1 : ¬ co < 0) => ?_)
  · repeat refine Wp.p rfl ?_
    refine Wp.r rfl (Or.inl rfl) (h0 (fun z => ?_))
    obtain ⟨k, hk, rfl⟩ := small z
    exact nI_pos (by omega) c1
  repeat refine Wp.p rfl ?_
  refine Wp.b rfl (fun (c2 : 24 ≤ co) => ?_) (fun (c2 : ¬ 24 ≤ co) => ?_)
  · repeat refine Wp.p rfl ?_
    refine Wp.r rfl (Or.inl rfl) (h0 (fun z => ?_))
    obtain ⟨k, hk, rfl⟩ := small z
    exact nI_ge (b := 24) hk (by decide) c2
  obtain ⟨k, hk0, rfl⟩ := nI_of c1
  have hk : k < 24 := by
    rcases Nat.lt_or_ge k 24 with z | z
    · exact z
    · exact absurd (nI_le (a := 24) z hk0) c2
  have tk : (nI k).toNatClampNeg = k := nI_clamp hk0
  have hin : vp_in (nI k) 24 := vp_in_nI hk (by omega)
  have un : okS (nI k) a b c h → wS k a b c ∧ -1 ≤ h ∧ h ≤ 32 := fun z => by
    obtain ⟨⟨k', e, hw⟩, hh⟩ := z
    have h24 := hw.1
    rw [(nI_eq hk0 (by omega)).mp e]
    exact ⟨hw, hh⟩
  repeat refine Wp.p rfl ?_
  refine Wp.c rfl (by omega) hin ?_
  repeat refine Wp.p rfl ?_
  show Wp _ _ _ _ (.int a :: .int ((m_chs.getD 0 []).getD (nI k).toNatClampNeg 0) :: []) S Q
  rw [tk]
  refine Wp.i rfl (s_P_fits _ (ch_in 0 (by decide) k hk) (fun fa => ?_) (fun fa => ?_))
  case refine_2 =>
    refine Wp.b rfl (fun _ => ?_) (fun (e : ¬ (0 : Int32) = 0) => absurd rfl e)
    repeat refine Wp.p rfl ?_
    exact Wp.r rfl (Or.inl rfl) (h0 (fun z => fa (un z).1.2.1))
  refine Wp.b rfl (fun (e : (1 : Int32) = 0) => absurd e (by decide)) (fun _ => ?_)
  repeat refine Wp.p rfl ?_
  refine Wp.c rfl (by omega) hin ?_
  repeat refine Wp.p rfl ?_
  show Wp _ _ _ _ (.int b :: .int ((m_chs.getD 1 []).getD (nI k).toNatClampNeg 0) :: []) S Q
  rw [tk]
  refine Wp.i rfl (s_P_fits _ (ch_in 1 (by decide) k hk) (fun fb => ?_) (fun fb => ?_))
  case refine_2 =>
    refine Wp.b rfl (fun _ => ?_) (fun (e : ¬ (0 : Int32) = 0) => absurd rfl e)
    repeat refine Wp.p rfl ?_
    exact Wp.r rfl (Or.inl rfl) (h0 (fun z => fb (un z).1.2.2.1))
  refine Wp.b rfl (fun (e : (1 : Int32) = 0) => absurd e (by decide)) (fun _ => ?_)
  repeat refine Wp.p rfl ?_
  refine Wp.c rfl (by omega) hin ?_
  repeat refine Wp.p rfl ?_
  show Wp _ _ _ _ (.int c :: .int ((m_chs.getD 2 []).getD (nI k).toNatClampNeg 0) :: []) S Q
  rw [tk]
  refine Wp.i rfl (s_P_fits _ (ch_in 2 (by decide) k hk) (fun fc => ?_) (fun fc => ?_))
  case refine_2 =>
    refine Wp.b rfl (fun _ => ?_) (fun (e : ¬ (0 : Int32) = 0) => absurd rfl e)
    repeat refine Wp.p rfl ?_
    exact Wp.r rfl (Or.inl rfl) (h0 (fun z => fc (un z).1.2.2.2))
  refine Wp.b rfl (fun (e : (1 : Int32) = 0) => absurd e (by decide)) (fun _ => ?_)
  repeat refine Wp.p rfl ?_
  refine Wp.b rfl (fun (c3 : h < -1) => ?_) (fun (c3 : ¬ h < -1) => ?_)
  · repeat refine Wp.p rfl ?_
    exact Wp.r rfl (Or.inl rfl) (h0 (fun z => Int32.not_lt.mpr (un z).2.1 c3))
  repeat refine Wp.p rfl ?_
  refine Wp.b rfl (fun (c4 : 32 < h) => ?_) (fun (c4 : ¬ 32 < h) => ?_)
  · repeat refine Wp.p rfl ?_
    exact Wp.r rfl (Or.inl rfl) (h0 (fun z => Int32.not_lt.mpr (un z).2.2 c4))
  repeat refine Wp.p rfl ?_
  exact Wp.r rfl (Or.inr rfl) (h1 ⟨⟨k, rfl, hk, fa, fb, fc⟩, Int32.not_lt.mp c3, Int32.not_lt.mp c4⟩)
/-- the watch forgets -/
def wF (S S' : mS) : Prop := Fr [162, 163] [260, 261] S S' ∧ S'.1 162 = 0 ∧ S'.1 163 = 0 ∧ S'.2.2 260 = fillC (S.2.2 260) 0 0 192 ∧ S'.2.2 261 = fillC (S.2.2 261) 0 0 32
theorem s_W_forget {d : Nat} {S : mS} {Q : mQ} (h : ∀ S', wF S S' → Q none S') : Ev (d + 1) n_X4_forget [.ref 4] S Q := by
  repeat refine Wp.p rfl ?_
  refine Wp.i rfl (s_fill260 (fun S1 hF1 h1 => ?_))
  repeat refine Wp.p rfl ?_
  refine Wp.i rfl (s_fill261 (fun S2 hF2 h2 => ?_))
  repeat refine Wp.p rfl ?_
  refine Wp.r rfl trivial (h _ ⟨((hF1.up (by decide) (by decide)).tr (hF2.up (by decide) (by decide))).f (by decide) |>.f (by decide), rfl, rfl, ?_, ?_⟩)
  · show S2.2.2 260 = _
    rw [hF2.2.2 260 (by decide)]
    exact h1
  · show S2.2.2 261 = _
    rw [h2, hF1.2.2 261 (by decide)]
theorem s_O_forget {d : Nat} {S : mS} {Q : mQ} (h : Q none (sF S 86 0)) : Ev d n_X2_forget [.ref 2] S Q := by
  repeat refine Wp.p rfl ?_
  refine Wp.g rfl (Or.inl rfl) ?_
  exact Wp.r rfl trivial h
/-- a step has come in -/
def cA (S S' : mS) (n : Nat) (co a b c h : Int32) : Prop := Fr [162, 163, 86, 125] [260, 261, 220, 221, 222, 223, 224] S S' ∧ S'.1 162 = 0 ∧ S'.1 163 = 0 ∧ S'.1 86 = 0 ∧ S'.1 125 = nI (n + 1) ∧ S'.2.2 260 = fillC (S.2.2 260) 0 0 192 ∧ S'.2.2 261 = fillC (S.2.2 261) 0 0 32 ∧ S'.2.2 220 = upd (S.2.2 220) n co ∧ S'.2.2 221 = upd (S.2.2 221) n a ∧ S'.2.2 222 = upd (S.2.2 222) n b ∧ S'.2.2 223 = upd (S.2.2 223) n c ∧ S'.2.2 224 = upd (S.2.2 224) n h
theorem s_C_step {d n : Nat} {S : mS} {Q : mQ} {co a b c h : Int32} (hn : S.1 125 = nI n) (hn2 : n ≤ 32) (h2 : ¬ okS co a b c h → Q (some (.int (-2))) S) (h4 : okS co a b c h → n = 32 → Q (some (.int (-4))) S) (h0 : okS co a b c h → n < 32 → ∀ S', cA S S' n co a b c h → Q (some (.int (nI n))) S') : Ev (d + 5) n_X5_step [.ref 5, .int co, .int a, .int b, .int c, .int h] S Q := by
  repeat refine Wp.p rfl ?_
  refine Wp.i rfl (s_P_isInBounds (fun hk => ?_) (fun hk => ?_))
  case refine_2 =>
    refine Wp.b rfl (fun (e : ¬ (0 : Int32) = 0) => absurd rfl e) (fun _ => ?_)
    repeat refine Wp.p rfl ?_
    exact Wp.r rfl trivial (h2 hk)
  refine Wp.b rfl (fun _ => ?_) (fun (e : ¬ ¬ (1 : Int32) = 0) => absurd (by decide) e)
  repeat refine Wp.p rfl ?_
  refine Wp.i rfl (s_P_size ?_)
  rw [hn]
  repeat refine Wp.p rfl ?_
  refine Wp.b rfl (fun (c1 : nI n < 32) => ?_) (fun (c1 : ¬ nI n < 32) => ?_)
  case refine_2 =>
    have : n = 32 := by
      rcases Nat.lt_or_ge n 32 with z | z
      · exact absurd (nI_lt (b := 32) z (by decide)) c1
      · omega
    repeat refine Wp.p rfl ?_
    exact Wp.r rfl trivial (h4 hk this)
  have hlt : n < 32 := (nI_ltI (b := 32) (by omega) (by decide)).mp c1
  repeat refine Wp.p rfl ?_
  refine Wp.i rfl (s_W_forget (fun S1 hW1 => ?_))
  obtain ⟨hF1, w1, w2, w3, w4⟩ := hW1
  repeat refine Wp.p rfl ?_
  refine Wp.i rfl (s_O_forget ?_)
  repeat refine Wp.p rfl ?_
  have e125 : S1.1 125 = nI n := (hF1.1 125 (by decide)).trans hn
  refine Wp.i rfl (s_P_add (show vp_in (S1.1 125) 32 by rw [e125]; exact vp_in_nI hlt (by omega)) ?_)
  show Wp _ _ _ _ [.int (S1.1 125)] (sF (sA (sA (sA (sA (sA (sF S1 86 0) 220 (S1.1 125).toNatClampNeg co) 221 (S1.1 125).toNatClampNeg a) 222 (S1.1 125).toNatClampNeg b) 223 (S1.1 125).toNatClampNeg c) 224 (S1.1 125).toNatClampNeg h) 125 (S1.1 125 + 1)) Q
  rw [e125, nI_clamp (show n < 2 ^ 31 by omega), nI_1]
  refine Wp.r rfl trivial (h0 hk hlt _ ⟨?_, w1, w2, rfl, rfl, w3, w4, ?_, ?_, ?_, ?_, ?_⟩)
  · exact (((((((hF1.up (by decide) (by decide)).f (by decide)).a (by decide)).a (by decide)).a (by decide)).a (by decide)).a (by decide)).f (by decide)
  · show upd (S1.2.2 220) n co = _
    rw [hF1.2.2 220 (by decide)]
  · show upd (S1.2.2 221) n a = _
    rw [hF1.2.2 221 (by decide)]
  · show upd (S1.2.2 222) n b = _
    rw [hF1.2.2 222 (by decide)]
  · show upd (S1.2.2 223) n c = _
    rw [hF1.2.2 223 (by decide)]
  · show upd (S1.2.2 224) n h = _
    rw [hF1.2.2 224 (by decide)]
/-- all is cleared -/
def cC (S S' : mS) : Prop := Fr [162, 163, 86, 125, 48] [260, 261] S S' ∧ S'.1 162 = 0 ∧ S'.1 163 = 0 ∧ S'.1 86 = 0 ∧ S'.1 125 = 0 ∧ S'.1 48 = 4 ∧ S'.2.2 260 = fillC (S.2.2 260) 0 0 192 ∧ S'.2.2 261 = fillC (S.2.2 261) 0 0 32
theorem s_C_clear {d : Nat} {S : mS} {Q : mQ} (h : ∀ S', cC S S' → Q (some (.int (S.1 125))) S') : Ev (d + 2) n_X5_clear [.ref 5] S Q := by
  repeat refine Wp.p rfl ?_
  refine Wp.i rfl (s_P_size ?_)
  repeat refine Wp.p rfl ?_
  refine Wp.i rfl (s_P_empty ?_)
  repeat refine Wp.p rfl ?_
  refine Wp.i rfl (s_W_forget (fun S1 hW1 => ?_))
  obtain ⟨hF1, w1, w2, w3, w4⟩ := hW1
  repeat refine Wp.p rfl ?_
  refine Wp.i rfl (s_M_forget ?_)
  repeat refine Wp.p rfl ?_
  refine Wp.i rfl (s_O_forget ?_)
  repeat refine Wp.p rfl ?_
  refine Wp.r rfl trivial (h _ ⟨?_, w1, w2, rfl, ?_, rfl, w3, w4⟩)
  · exact ((Fr.f (S' := S) Fr.rf (by decide)).tr (hF1.up (by decide) (by decide))).f (by decide) |>.f (by decide)
  · show S1.1 125 = 0
    rw [hF1.1 125 (by decide)]
    rfl
theorem s_C_seen {d n : Nat} {S : mS} {Q : mQ} {s v : Int32} (hn : S.1 125 = nI n) (hn2 : n ≤ 32) (h0 : ∀ i j, i < n → j < 6 → s = nI i → v = nI j → Q (some (.int (S.2.2 260 (6 * i + j)))) S) (h1 : ¬ ((0 ≤ s ∧ s < nI n) ∧ 0 ≤ v ∧ v < 6) → Q (some (.int (-1))) S) : Ev (d + 1) n_X5_seen [.ref 5, .int s, .int v] S Q := by
  repeat refine Wp.p rfl ?_
  refine Wp.i rfl (s_P_has ?_)
  rw [hn]
  refine Wp.b rfl (fun (c : bI (0 ≤ s ∧ s < nI n) = 0) => ?_) (fun (c : ¬ bI (0 ≤ s ∧ s < nI n) = 0) => ?_)
  · repeat refine Wp.p rfl ?_
    exact Wp.r rfl trivial (h1 (fun z => bI_0.mp c z.1))
  have cs : 0 ≤ s ∧ s < nI n := Decidable.not_not.mp (fun z => c (bI_0.mpr z))
  repeat refine Wp.p rfl ?_
  refine Wp.i rfl (s_isVariable ?_)
  refine Wp.b rfl (fun (c : bI (0 ≤ v ∧ v < 6) = 0) => ?_) (fun (c : ¬ bI (0 ≤ v ∧ v < 6) = 0) => ?_)
  · repeat refine Wp.p rfl ?_
    exact Wp.r rfl trivial (h1 (fun z => bI_0.mp c z.2))
  have cv : 0 ≤ v ∧ v < 6 := Decidable.not_not.mp (fun z => c (bI_0.mpr z))
  obtain ⟨i, hi0, rfl⟩ := nI_of (Int32.not_lt.mpr cs.1)
  obtain ⟨j, hj0, rfl⟩ := nI_of (Int32.not_lt.mpr cv.1)
  have hi : i < n := (nI_ltI hi0 (by omega)).mp cs.2
  have hj : j < 6 := (nI_ltI (b := 6) hj0 (by decide)).mp cv.2
  have e6 : nI i * 6 + nI j = nI (6 * i + j) := by rw [show (6 : Int32) = nI 6 from rfl, pk_mul, nI_add, Nat.mul_comm]
  repeat refine Wp.p rfl ?_
  refine Wp.i rfl (s_W_kindsAt (by rw [e6]; exact vp_in_nI (by omega) (by omega)) ?_)
  rw [e6, nI_clamp (by omega)]
  repeat refine Wp.p rfl ?_
  exact Wp.r rfl trivial (h0 i j hi hj rfl rfl)
theorem s_C_had {d n : Nat} {S : mS} {Q : mQ} {s : Int32} (hn : S.1 125 = nI n) (hn2 : n ≤ 32) (h0 : ∀ i, i < n → s = nI i → Q (some (.int (S.2.2 261 i))) S) (h1 : ¬ (0 ≤ s ∧ s < nI n) → Q (some (.int (-1))) S) : Ev (d + 1) n_X5_had [.ref 5, .int s] S Q := by
  repeat refine Wp.p rfl ?_
  refine Wp.i rfl (s_P_has ?_)
  rw [hn]
  refine Wp.b rfl (fun (c : bI (0 ≤ s ∧ s < nI n) = 0) => ?_) (fun (c : ¬ bI (0 ≤ s ∧ s < nI n) = 0) => ?_)
  · repeat refine Wp.p rfl ?_
    exact Wp.r rfl trivial (h1 (bI_0.mp c))
  have cs : 0 ≤ s ∧ s < nI n := Decidable.not_not.mp (fun z => c (bI_0.mpr z))
  obtain ⟨i, hi0, rfl⟩ := nI_of (Int32.not_lt.mpr cs.1)
  have hi : i < n := (nI_ltI hi0 (by omega)).mp cs.2
  repeat refine Wp.p rfl ?_
  refine Wp.i rfl (s_W_faultsAt (vp_in_nI (by omega) (by omega)) ?_)
  rw [nI_clamp (by omega)]
  repeat refine Wp.p rfl ?_
  exact Wp.r rfl trivial (h0 i hi rfl)
