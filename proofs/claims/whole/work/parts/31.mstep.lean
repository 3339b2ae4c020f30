/-- as Fr, but the long may change too -/
def Fm (fs as : List Nat) (S S' : mS) : Prop := (∀ q, q ∉ fs → S'.1 q = S.1 q) ∧ ∀ a, a ∉ as → S'.2.2 a = S.2.2 a
theorem Fr.m {fs as : List Nat} {S S' : mS} (h : Fr fs as S S') : Fm fs as S S' := ⟨h.1, h.2.2⟩
theorem Fm.tr {fs as : List Nat} {S S' S'' : mS} (h : Fm fs as S S') (h2 : Fm fs as S' S'') : Fm fs as S S'' := ⟨fun q hq => (h2.1 q hq).trans (h.1 q hq), fun a ha => (h2.2 a ha).trans (h.2 a ha)⟩
theorem Fm.up {fs as fs' as' : List Nat} {S S' : mS} (h : Fm fs as S S') (h1 : ∀ q ∈ fs, q ∈ fs') (h2 : ∀ q ∈ as, q ∈ as') : Fm fs' as' S S' := ⟨fun q hq => h.1 q (fun z => hq (h1 q z)), fun a ha => h.2 a (fun z => ha (h2 a z))⟩
theorem Fm.f {fs as : List Nat} {S S' : mS} {q : Nat} {x : Int32} (h : Fm fs as S S') (hq : q ∈ fs) : Fm fs as S (sF S' q x) := ⟨fun z hz => by
  show upd S'.1 q x z = S.1 z
  rw [show upd S'.1 q x z = S'.1 z from if_neg (fun e : z = q => hz (by rw [e]; exact hq))]
  exact h.1 z hz, h.2⟩
theorem Fm.a {fs as : List Nat} {S S' : mS} {a n : Nat} {x : Int32} (h : Fm fs as S S') (ha : a ∈ as) : Fm fs as S (sA S' a n x) := ⟨h.1, fun z hz => by
  show va_up S'.2.2 a _ z = S.2.2 z
  rw [show va_up S'.2.2 a (upd (S'.2.2 a) n x) z = S'.2.2 z from if_neg (fun e : z = a => hz (by rw [e]; exact ha))]
  exact h.2 z hz⟩
theorem Fm.l {fs as : List Nat} {S S' : mS} {y : Int64} (h : Fm fs as S S') : Fm fs as S (S'.1, y, S'.2.2) := h
theorem s_m_forget1 {d : Nat} {Q : mQ} (S0 : mS) (hQ : ∀ S', Fr [] [347] S0 S' → S'.2.2 347 = fillC (S0.2.2 347) 0 0 192 → Wp d n_X6_forget 22 [(1, .int (nI 192)), (0, .ref 6)] [] S' Q) : ∀ (k j : Nat) (S : mS), j + k = 192 → Fr [] [347] S0 S → S.2.2 347 = fillC (S0.2.2 347) 0 0 j →
    Wp d n_X6_forget 2 [(1, .int (nI j)), (0, .ref 6)] [] S Q := by
  intro k
  induction k with
  | zero =>
    intro j S hj hF hC
    obtain rfl : j = 192 := by omega
    iterate 2 refine Wp.p rfl ?_
    refine Wp.b rfl (fun _ => ?_) (fun (c : ¬ (192 : Int32) ≤ nI 192) => absurd (by decide) c)
    exact hQ S hF hC
  | succ k ih =>
    intro j S hj hF hC
    have hlt : j < 192 := by omega
    iterate 2 refine Wp.p rfl ?_
    refine Wp.b rfl (fun (c : (192 : Int32) ≤ nI j) => absurd c (nI_ge (b := 192) hlt (by decide))) (fun _ => ?_)
    repeat refine Wp.p rfl ?_
    refine Wp.g rfl (vp_in_nI (N := 192) hlt (by omega)) ?_
    iterate 2 refine Wp.p rfl ?_
    show Wp d n_X6_forget 2 [(1, .int (nI j + 1)), (0, .ref 6)] [] _ Q
    rw [nI_1]
    refine ih (j + 1) _ (by omega) (hF.a (by decide)) ?_
    show upd (S.2.2 347) (nI j).toNatClampNeg 0 = upd (fillC (S0.2.2 347) 0 0 j) (0 + j) 0
    rw [nI_clamp (by omega), hC, Nat.zero_add]
theorem s_m_forget2 {d : Nat} {Q : mQ} (S0 : mS) (hQ : ∀ S', Fr [] [348] S0 S' → S'.2.2 348 = fillC (S0.2.2 348) 0 0 32 → Wp d n_X6_forget 43 [(1, .int (nI 32)), (0, .ref 6)] [] S' Q) : ∀ (k j : Nat) (S : mS), j + k = 32 → Fr [] [348] S0 S → S.2.2 348 = fillC (S0.2.2 348) 0 0 j →
    Wp d n_X6_forget 24 [(1, .int (nI j)), (0, .ref 6)] [] S Q := by
  intro k
  induction k with
  | zero =>
    intro j S hj hF hC
    obtain rfl : j = 32 := by omega
    iterate 2 refine Wp.p rfl ?_
    refine Wp.b rfl (fun _ => ?_) (fun (c : ¬ (32 : Int32) ≤ nI 32) => absurd (by decide) c)
    exact hQ S hF hC
  | succ k ih =>
    intro j S hj hF hC
    have hlt : j < 32 := by omega
    iterate 2 refine Wp.p rfl ?_
    refine Wp.b rfl (fun (c : (32 : Int32) ≤ nI j) => absurd c (nI_ge (b := 32) hlt (by decide))) (fun _ => ?_)
    repeat refine Wp.p rfl ?_
    refine Wp.g rfl (vp_in_nI (N := 32) hlt (by omega)) ?_
    iterate 2 refine Wp.p rfl ?_
    show Wp d n_X6_forget 24 [(1, .int (nI j + 1)), (0, .ref 6)] [] _ Q
    rw [nI_1]
    refine ih (j + 1) _ (by omega) (hF.a (by decide)) ?_
    show upd (S.2.2 348) (nI j).toNatClampNeg 0 = upd (fillC (S0.2.2 348) 0 0 j) (0 + j) 0
    rw [nI_clamp (by omega), hC, Nat.zero_add]
/-- the model forgets what was seen -/
def mFg (S S' : mS) : Prop := Fm [250, 263] [347, 348] S S' ∧ S'.2.1 = 0 ∧ S'.1 250 = 0 ∧ S'.1 263 = 0 ∧ S'.2.2 347 = fillC (S.2.2 347) 0 0 192 ∧ S'.2.2 348 = fillC (S.2.2 348) 0 0 32
theorem s_m_forget {d : Nat} {S : mS} {Q : mQ} (h : ∀ S', mFg S S' → Q none S') : Ev d n_X6_forget [.ref 6] S Q := by
  iterate 2 refine Wp.p rfl ?_
  refine s_m_forget1 S (fun S1 hF1 h1 => ?_) 192 0 S (by omega) Fr.rf rfl
  iterate 2 refine Wp.p rfl ?_
  refine s_m_forget2 S1 (fun S2 hF2 h2 => ?_) 32 0 S1 (by omega) Fr.rf rfl
  repeat refine Wp.p rfl ?_
  refine Wp.g rfl (Or.inl rfl) ?_
  refine Wp.r rfl trivial (h _ ⟨?_, rfl, rfl, rfl, ?_, ?_⟩)
  · exact (((hF1.up (by decide) (by decide)).tr (hF2.up (by decide) (by decide))).m.l.f (by decide)).f (by decide)
  · show S2.2.2 347 = _
    rw [hF2.2.2 347 (by decide)]
    exact h1
  · show S2.2.2 348 = _
    rw [h2, hF1.2.2 348 (by decide)]
/-- a step has come into the model -/
def mA (S S' : mS) (n : Nat) (co a b c h : Int32) : Prop := Fm [240, 241, 250, 263] [342, 343, 344, 345, 346, 347, 348] S S' ∧ S'.2.1 = 0 ∧ S'.1 250 = 0 ∧ S'.1 263 = 0 ∧ S'.1 241 = nI (n + 1) ∧ S'.2.2 347 = fillC (S.2.2 347) 0 0 192 ∧ S'.2.2 348 = fillC (S.2.2 348) 0 0 32 ∧ S'.2.2 342 = upd (S.2.2 342) n co ∧ S'.2.2 343 = upd (S.2.2 343) n a ∧ S'.2.2 344 = upd (S.2.2 344) n b ∧ S'.2.2 345 = upd (S.2.2 345) n c ∧ S'.2.2 346 = upd (S.2.2 346) n h
theorem s_D_step {d n : Nat} {S : mS} {Q : mQ} {co a b c h : Int32} (hn : S.1 241 = nI n) (hn2 : n ≤ 32) (h2 : ¬ okS co a b c h → Q (some (.int (-2))) (sF S 240 0)) (h4 : okS co a b c h → n = 32 → Q (some (.int (-4))) (sF S 240 0)) (h0 : okS co a b c h → n < 32 → ∀ S', mA S S' n co a b c h → Q (some (.int (nI n))) S') : Ev (d + 2) n_X6_step [.ref 6, .int co, .int a, .int b, .int c, .int h] S Q := by
  repeat refine Wp.p rfl ?_
  refine Wp.i rfl (s_m_in (x := co) (lo := 0) (hi := 23) rfl rfl ?_)
  refine Wp.b rfl (fun (e : bI (0 ≤ co ∧ co ≤ 23) = 0) => ?_) (fun (e : ¬ bI (0 ≤ co ∧ co ≤ 23) = 0) => ?_)
  · repeat refine Wp.p rfl ?_
    refine Wp.r rfl trivial (h2 (fun z => bI_0.mp e ?_))
    obtain ⟨⟨k, rfl, hw⟩, -⟩ := z
    have := hw.1
    exact ⟨nI_pos' (by omega), nI_le (b := 23) (by omega) (by decide)⟩
  obtain ⟨k, k1, k2, rfl⟩ := of_rng (lo := 0) (hi := 23) rfl rfl (by decide) (by decide) (Decidable.not_not.mp (fun z => e (bI_0.mpr z))).1 (Decidable.not_not.mp (fun z => e (bI_0.mpr z))).2
  have hk : k < 24 := by omega
  have un : okS (nI k) a b c h → wS k a b c ∧ -1 ≤ h ∧ h ≤ 32 := fun z => by
    obtain ⟨⟨k', e, hw⟩, hh⟩ := z
    have h24 := hw.1
    rw [(nI_eq (by omega) (by omega)).mp e]
    exact ⟨hw, hh⟩
  obtain ⟨eA, eB, eC⟩ := sort_ch k hk
  repeat refine Wp.p rfl ?_
  refine Wp.i rfl (s_m_sortA k hk ?_)
  repeat refine Wp.p rfl ?_
  rw [eA]
  refine Wp.i rfl (s_m_isGood _ (ch_in 0 (by decide) k hk) (fun fa => ?_) (fun fa => ?_))
  case refine_2 =>
    refine Wp.b rfl (fun _ => ?_) (fun (e : ¬ (0 : Int32) = 0) => absurd rfl e)
    repeat refine Wp.p rfl ?_
    exact Wp.r rfl trivial (h2 (fun z => fa (un z).1.2.1))
  refine Wp.b rfl (fun (e : (1 : Int32) = 0) => absurd e (by decide)) (fun _ => ?_)
  repeat refine Wp.p rfl ?_
  refine Wp.i rfl (s_m_sortB k hk ?_)
  repeat refine Wp.p rfl ?_
  rw [eB]
  refine Wp.i rfl (s_m_isGood _ (ch_in 1 (by decide) k hk) (fun fb => ?_) (fun fb => ?_))
  case refine_2 =>
    refine Wp.b rfl (fun _ => ?_) (fun (e : ¬ (0 : Int32) = 0) => absurd rfl e)
    repeat refine Wp.p rfl ?_
    exact Wp.r rfl trivial (h2 (fun z => fb (un z).1.2.2.1))
  refine Wp.b rfl (fun (e : (1 : Int32) = 0) => absurd e (by decide)) (fun _ => ?_)
  repeat refine Wp.p rfl ?_
  refine Wp.i rfl (s_m_sortC k hk ?_)
  repeat refine Wp.p rfl ?_
  rw [eC]
  refine Wp.i rfl (s_m_isGood _ (ch_in 2 (by decide) k hk) (fun fc => ?_) (fun fc => ?_))
  case refine_2 =>
    refine Wp.b rfl (fun _ => ?_) (fun (e : ¬ (0 : Int32) = 0) => absurd rfl e)
    repeat refine Wp.p rfl ?_
    exact Wp.r rfl trivial (h2 (fun z => fc (un z).1.2.2.2))
  refine Wp.b rfl (fun (e : (1 : Int32) = 0) => absurd e (by decide)) (fun _ => ?_)
  repeat refine Wp.p rfl ?_
  refine Wp.i rfl (s_m_in (x := h) (lo := -1) (hi := 32) rfl rfl ?_)
  refine Wp.b rfl (fun (e : ¬ bI (-1 ≤ h ∧ h ≤ 32) = 0) => ?_) (fun (e : ¬ ¬ bI (-1 ≤ h ∧ h ≤ 32) = 0) => ?_)
  case refine_2 =>
    repeat refine Wp.p rfl ?_
    exact Wp.r rfl trivial (h2 (fun z => bI_0.mp (Decidable.not_not.mp e) (un z).2))
  have hok : okS (nI k) a b c h := ⟨⟨k, rfl, hk, fa, fb, fc⟩, Decidable.not_not.mp (fun z => e (bI_0.mpr z))⟩
  repeat refine Wp.p rfl ?_
  refine Wp.b rfl (fun (c1 : ¬ S.1 241 = 32) => ?_) (fun (c1 : ¬ ¬ S.1 241 = 32) => ?_)
  case refine_2 =>
    have e32 : S.1 241 = nI 32 := Decidable.not_not.mp c1
    repeat refine Wp.p rfl ?_
    exact Wp.r rfl trivial (h4 hok ((nI_eq (by omega) (by decide)).mp (hn.symm.trans e32)))
  have hlt : n < 32 := by
    rcases Nat.lt_or_ge n 32 with z | z
    · exact z
    · exact absurd (by rw [hn, show n = 32 by omega]; rfl) c1
  have hin : vp_in (S.1 241) 32 := by rw [hn]; exact vp_in_nI hlt (by omega)
  repeat refine Wp.p rfl ?_
  refine Wp.g rfl hin ?_
  repeat refine Wp.p rfl ?_
  refine Wp.g rfl hin ?_
  repeat refine Wp.p rfl ?_
  refine Wp.g rfl hin ?_
  repeat refine Wp.p rfl ?_
  refine Wp.g rfl hin ?_
  repeat refine Wp.p rfl ?_
  refine Wp.g rfl hin ?_
  repeat refine Wp.p rfl ?_
  refine Wp.i rfl (s_m_forget (fun S1 hg => ?_))
  have hg' : mFg (sF (sA (sA (sA (sA (sA (sF S 240 0) 342 (S.1 241).toNatClampNeg (nI k)) 343 (S.1 241).toNatClampNeg a) 344 (S.1 241).toNatClampNeg b) 345 (S.1 241).toNatClampNeg c) 346 (S.1 241).toNatClampNeg h) 241 (S.1 241 + 1)) S1 := hg
  rw [hn, nI_clamp (show n < 2 ^ 31 by omega), nI_1] at hg'
  obtain ⟨hF, g1, g2, g3, g4, g5⟩ := hg'
  have e241 : S1.1 241 = nI (n + 1) := hF.1 241 (by decide)
  repeat refine Wp.p rfl ?_
  rw [e241]
  have em : nI (n + 1) - 1 = nI n := nI_pred n
  show Wp _ n_X6_step 153 _ [.int (nI (n + 1) - 1)] S1 Q
  rw [em]
  refine Wp.r rfl trivial (h0 hok hlt S1 ⟨?_, g1, g2, g3, e241, g4, g5, hF.2 342 (by decide), hF.2 343 (by decide), hF.2 344 (by decide), hF.2 345 (by decide), hF.2 346 (by decide)⟩)
  exact ((((((((Fr.rf (S := S)).m.f (by decide)).a (by decide)).a (by decide)).a (by decide)).a (by decide)).a (by decide)).f (by decide)).tr (hF.up (by decide) (by decide))
def mC (S S' : mS) : Prop := Fm [240, 241, 250, 263, 251] [347, 348] S S' ∧ S'.2.1 = 0 ∧ S'.1 250 = 0 ∧ S'.1 263 = 0 ∧ S'.1 241 = 0 ∧ S'.1 251 = 0 ∧ S'.2.2 347 = fillC (S.2.2 347) 0 0 192 ∧ S'.2.2 348 = fillC (S.2.2 348) 0 0 32
theorem s_D_clear {d : Nat} {S : mS} {Q : mQ} (h : ∀ S', mC S S' → Q (some (.int (S.1 241))) S') : Ev (d + 1) n_X6_clear [.ref 6] S Q := by
  repeat refine Wp.p rfl ?_
  refine Wp.i rfl (s_m_forget (fun S1 hg => ?_))
  obtain ⟨hF, g1, g2, g3, g4, g5⟩ := hg
  repeat refine Wp.p rfl ?_
  refine Wp.g rfl (Or.inl rfl) ?_
  repeat refine Wp.p rfl ?_
  refine Wp.r rfl trivial (h _ ⟨?_, g1, g2, g3, hF.1 241 (by decide), rfl, g4, g5⟩)
  exact ((((Fr.rf (S := S)).m.f (by decide)).f (by decide)).tr (hF.up (by decide) (by decide))).f (by decide)
