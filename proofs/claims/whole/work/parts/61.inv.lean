theorem cV_fm {fs as : List Nat} {S S' : mS} (h : Fm fs as S S') (h1 : 5 ∉ fs) (h2 : ∀ a, a ∈ [143, 144, 100, 101, 102, 103, 104] → a ∉ as) : cV S' = cV S := by
  unfold cV
  rw [h.2 143 (h2 143 (by decide)), h.2 144 (h2 144 (by decide)), h.2 100 (h2 100 (by decide)), h.2 101 (h2 101 (by decide)), h.2 102 (h2 102 (by decide)), h.2 103 (h2 103 (by decide)), h.2 104 (h2 104 (by decide)), h.1 5 h1]
theorem dV_fm {fs as : List Nat} {S S' : mS} (h : Fm fs as S S') (h1 : 256 ∉ fs) (h2 : ∀ a, a ∈ [361, 362, 357, 359, 358, 360, 365] → a ∉ as) : dV S' = dV S := by
  unfold dV
  rw [h.2 361 (h2 361 (by decide)), h.2 362 (h2 362 (by decide)), h.2 357 (h2 357 (by decide)), h.2 359 (h2 359 (by decide)), h.2 358 (h2 358 (by decide)), h.2 360 (h2 360 (by decide)), h.2 365 (h2 365 (by decide)), h.1 256 h1]
theorem cO_fm {fs as : List Nat} {S S' : mS} (h : Fm fs as S S') (h1 : 84 ∉ fs) (h2 : ∀ a, a ∈ [181, 182] → a ∉ as) : cO S' = cO S := by
  unfold cO
  rw [h.2 181 (h2 181 (by decide)), h.2 182 (h2 182 (by decide)), h.1 84 h1]
theorem mO_fm {fs as : List Nat} {S S' : mS} (h : Fm fs as S S') (h2 : ∀ a, a ∈ [366, 367, 368] → a ∉ as) : mO S' = mO S := by
  unfold mO
  rw [h.2 366 (h2 366 (by decide)), h.2 367 (h2 367 (by decide)), h.2 368 (h2 368 (by decide))]
/-- the program that stands -/
def oPS (n : Nat) (S : mS) : oP := (n, S.2.2 220, S.2.2 221, S.2.2 222, S.2.2 223, S.2.2 224)
theorem oPS_fm {fs as : List Nat} {n : Nat} {S S' : mS} (h : Fm fs as S S') (h2 : ∀ a, a ∈ [220, 221, 222, 223, 224] → a ∉ as) : oPS n S' = oPS n S := by
  unfold oPS
  rw [h.2 220 (h2 220 (by decide)), h.2 221 (h2 221 (by decide)), h.2 222 (h2 222 (by decide)), h.2 223 (h2 223 (by decide)), h.2 224 (h2 224 (by decide))]
/-- class and model stand alike, the program of n steps; r runs of t steps in all -/
def InP (n : Nat) (S : mS) : Prop := S.1 125 = nI n ∧ S.1 241 = nI n ∧ oPW (oPS n S) ∧ S.2.2 342 = S.2.2 220 ∧ S.2.2 343 = S.2.2 221 ∧ S.2.2 344 = S.2.2 222 ∧ S.2.2 345 = S.2.2 223 ∧ S.2.2 346 = S.2.2 224
def InW (i : Nat) (S : mS) : Prop := S.2.2 347 = S.2.2 260 ∧ S.2.2 348 = S.2.2 261 ∧ ∃ r t, S.1 163 = nI r ∧ S.1 250 = nI r ∧ S.1 162 = nI t ∧ S.2.1 = (nI t).toInt64 ∧ r ≤ i ∧ t ≤ 200 * i
def InR (S : mS) : Prop := cV S = dV S ∧ (S.1 48 = 4 ↔ S.1 251 = 0) ∧ (¬ S.1 48 = 4 → S.1 252 = S.1 46 ∧ S.1 253 = S.1 49 ∧ S.1 254 = S.1 50 ∧ S.1 255 = S.1 51 ∧ ∃ k0, WFk k0 (cV S))
def InT (n : Nat) (S : mS) : Prop := (¬ S.1 86 = 0 → Lst (oPS n S) (cO S)) ∧ (¬ S.1 263 = 0 → Lst (oPS n S) (mO S))
def Inv (i : Nat) (S : mS) : Prop := ∃ n, InP n S ∧ InW i S ∧ InR S ∧ InT n S
theorem InP.fm {fs as : List Nat} {n : Nat} {S S' : mS} (h : InP n S) (g : Fm fs as S S') (h1 : ∀ q, q ∈ [125, 241] → q ∉ fs) (h2 : ∀ a, a ∈ [220, 221, 222, 223, 224] → a ∉ as) (h3 : ∀ a, a ∈ [342, 343, 344, 345, 346] → a ∉ as) : InP n S' := by
  obtain ⟨a, b, c, d0, d1, d2, d3, d4⟩ := h
  refine ⟨by rw [g.1 125 (h1 125 (by decide))]; exact a, by rw [g.1 241 (h1 241 (by decide))]; exact b, by rw [oPS_fm g h2]; exact c, ?_, ?_, ?_, ?_, ?_⟩
  · rw [g.2 342 (h3 342 (by decide)), g.2 220 (h2 220 (by decide))]; exact d0
  · rw [g.2 343 (h3 343 (by decide)), g.2 221 (h2 221 (by decide))]; exact d1
  · rw [g.2 344 (h3 344 (by decide)), g.2 222 (h2 222 (by decide))]; exact d2
  · rw [g.2 345 (h3 345 (by decide)), g.2 223 (h2 223 (by decide))]; exact d3
  · rw [g.2 346 (h3 346 (by decide)), g.2 224 (h2 224 (by decide))]; exact d4
theorem InW.fr {fs as : List Nat} {i : Nat} {S S' : mS} (h : InW i S) (g : Fr fs as S S') (h1 : ∀ q, q ∈ [163, 250, 162] → q ∉ fs) (h2 : ∀ a, a ∈ [260, 261, 347, 348] → a ∉ as) : InW i S' := by
  obtain ⟨a, b, r, t, c1, c2, c3, c4, c5, c6⟩ := h
  exact ⟨by rw [g.2.2 347 (h2 347 (by decide)), g.2.2 260 (h2 260 (by decide))]; exact a, by rw [g.2.2 348 (h2 348 (by decide)), g.2.2 261 (h2 261 (by decide))]; exact b, r, t, by rw [g.1 163 (h1 163 (by decide))]; exact c1, by rw [g.1 250 (h1 250 (by decide))]; exact c2, by rw [g.1 162 (h1 162 (by decide))]; exact c3, by rw [g.2.1]; exact c4, c5, c6⟩
theorem InR.fm {fs as : List Nat} {S S' : mS} (h : InR S) (g : Fm fs as S S') (h1 : ∀ q, q ∈ [5, 256, 48, 251, 252, 253, 254, 255, 46, 49, 50, 51] → q ∉ fs) (h2 : ∀ a, a ∈ [143, 144, 100, 101, 102, 103, 104] → a ∉ as) (h3 : ∀ a, a ∈ [361, 362, 357, 359, 358, 360, 365] → a ∉ as) : InR S' := by
  obtain ⟨a, b, c⟩ := h
  have f : ∀ q, q ∈ [5, 256, 48, 251, 252, 253, 254, 255, 46, 49, 50, 51] → S'.1 q = S.1 q := fun q hq => g.1 q (h1 q hq)
  have e1 := cV_fm g (h1 5 (by decide)) h2
  refine ⟨by rw [e1, dV_fm g (h1 256 (by decide)) h3]; exact a, by rw [f 48 (by decide), f 251 (by decide)]; exact b, fun z => ?_⟩
  rw [f 48 (by decide)] at z
  rw [f 252 (by decide), f 253 (by decide), f 254 (by decide), f 255 (by decide), f 46 (by decide), f 49 (by decide), f 50 (by decide), f 51 (by decide), e1]
  exact c z
theorem InW.s {i : Nat} {S : mS} (h : InW i S) : InW (i + 1) S := by
  obtain ⟨a, b, r, t, c1, c2, c3, c4, c5, c6⟩ := h
  exact ⟨a, b, r, t, c1, c2, c3, c4, by omega, by omega⟩
theorem Inv.s {i : Nat} {S : mS} (h : Inv i S) : Inv (i + 1) S := by
  obtain ⟨n, a, b, c, d⟩ := h
  exact ⟨n, a, b.s, c, d⟩
/-- only the mark of a throw changes -/
theorem Inv.th {i : Nat} {S : mS} {x : Int32} (h : Inv i S) : Inv i (sF S 240 x) := by
  obtain ⟨n, a, b, c, d⟩ := h
  have F : Fr [240] [] S (sF S 240 x) := Fr.rf.f (by decide)
  refine ⟨n, a.fm F.m (by decide) (fun _ _ => List.not_mem_nil) (fun _ _ => List.not_mem_nil), b.fr F (by decide) (fun _ _ => List.not_mem_nil), c.fm F.m (by decide) (fun _ _ => List.not_mem_nil) (fun _ _ => List.not_mem_nil), d⟩
-- a call of the class, then the same of the model: alike
def Tw (d M M' i : Nat) (as : List Value) (S : mS) : Prop := Ev d M (.ref 5 :: as) S (fun v S1 => (∃ x, v = some (.int x)) ∧ Ev d M' (.ref 6 :: as) S1 (fun v' S2 => v' = v ∧ Inv (i + 1) S2))
def TwL (d M M' i : Nat) (as : List Value) (S : mS) : Prop := Ev d M (.ref 5 :: as) S (fun v S1 => (∃ x, v = some (.long x)) ∧ Ev d M' (.ref 6 :: as) S1 (fun v' S2 => v' = v ∧ Inv (i + 1) S2))
theorem tw_seen {i : Nat} {S : mS} (h : Inv i S) (s v : Int32) : Tw 9 n_X5_seen n_X6_seen i [.int s, .int v] S := by
  have hI := h.s
  obtain ⟨n, ⟨a1, a2, a3, -⟩, ⟨b1, -⟩, -⟩ := id h
  refine s_C_seen a1 a3.1 (fun j k hj hk e1 e2 => ⟨⟨_, rfl⟩, ?_⟩) (fun c => ⟨⟨_, rfl⟩, ?_⟩)
  · refine s_D_seen a2 a3.1 (fun j' k' _ _ e3 e4 => ⟨?_, hI.th⟩) (fun c => absurd ⟨⟨?_, ?_⟩, ?_, ?_⟩ c)
    · have hn := a3.1
      have hn : n ≤ 32 := hn
      have j1 : j' = j := by
        have := congrArg tn (e3.symm.trans e1)
        rw [tn_nI (by omega), tn_nI (by omega)] at this
        exact this
      have k1 : k' = k := by
        have := congrArg tn (e4.symm.trans e2)
        rw [tn_nI (by omega), tn_nI (by omega)] at this
        exact this
      rw [j1, k1, b1]
    · rw [e1]; exact nI_pos' (by have := a3.1; have : n ≤ 32 := this; omega)
    · rw [e1]; exact nI_lt hj (by have := a3.1; have : n ≤ 32 := this; omega)
    · rw [e2]; exact nI_pos' (by omega)
    · rw [e2]; exact nI_lt (b := 6) hk (by decide)
  · exact s_D_seen a2 a3.1 (fun j k hj hk e1 e2 => absurd ⟨⟨by rw [e1]; exact nI_pos' (by have := a3.1; have : n ≤ 32 := this; omega), by rw [e1]; exact nI_lt hj (by have := a3.1; have : n ≤ 32 := this; omega)⟩, by rw [e2]; exact nI_pos' (by omega), by rw [e2]; exact nI_lt (b := 6) hk (by decide)⟩ c) (fun _ => ⟨rfl, hI.th⟩)
theorem tw_had {i : Nat} {S : mS} (h : Inv i S) (s : Int32) : Tw 9 n_X5_had n_X6_had i [.int s] S := by
  have hI := h.s
  obtain ⟨n, ⟨a1, a2, a3, -⟩, ⟨-, b1, -⟩, -⟩ := id h
  have hn : n ≤ 32 := a3.1
  refine s_C_had a1 a3.1 (fun j hj e1 => ⟨⟨_, rfl⟩, ?_⟩) (fun c => ⟨⟨_, rfl⟩, ?_⟩)
  · refine s_D_had a2 a3.1 (fun j' _ e3 => ⟨?_, hI.th⟩) (fun c => absurd ⟨?_, ?_⟩ c)
    · have j1 : j' = j := by
        have := congrArg tn (e3.symm.trans e1)
        rw [tn_nI (by omega), tn_nI (by omega)] at this
        exact this
      rw [j1, b1]
    · rw [e1]; exact nI_pos' (by omega)
    · rw [e1]; exact nI_lt hj (by omega)
  · exact s_D_had a2 a3.1 (fun j hj e1 => absurd ⟨by rw [e1]; exact nI_pos' (by omega), by rw [e1]; exact nI_lt hj (by omega)⟩ c) (fun _ => ⟨rfl, hI.th⟩)
theorem tw_ran {i : Nat} {S : mS} (h : Inv i S) (w : Int32) : TwL 9 n_X5_ran n_X6_ran i [.int w] S := by
  have hI := h.s
  obtain ⟨n, -, -, ⟨c0, c1, c2⟩, -⟩ := id h
  refine s_C_ran (fun e => ⟨⟨_, rfl⟩, ?_⟩) (fun e => ⟨⟨_, rfl⟩, ?_⟩)
  · exact s_D_ran (fun _ => ⟨rfl, hI.th⟩) (fun z => absurd (c1.mp e) z)
  · obtain ⟨d1, d2, d3, d4, -⟩ := c2 e
    refine s_D_ran (fun z => absurd (c1.mpr z) e) (fun _ => ⟨?_, hI.th⟩)
    have e5 : S.1 5 = S.1 256 := congrArg (fun m : mM => m.2.2.2.2.2.2.2) c0
    rw [d1, d2, d3, d4, e5]
theorem tw_number {i : Nat} {S : mS} (h : Inv i S) (k : Int32) : TwL 9 n_X5_number n_X6_number i [.int k] S := by
  have hI := h.s
  obtain ⟨n, -, -, ⟨c0, c1, c2⟩, -⟩ := id h
  refine s_C_number (fun e => ⟨⟨_, rfl⟩, ?_⟩) (fun e1 e2 => ⟨⟨_, rfl⟩, ?_⟩)
  · exact s_D_number (fun _ => ⟨rfl, hI.th⟩) (fun z1 z2 => absurd (e.elim (fun y => absurd z1 y) (fun y => c1.mp y)) z2)
  · refine s_D_number (fun z => absurd e1 (z.elim id (fun y => absurd (c1.mpr y) e2))) (fun _ _ => ⟨?_, hI.th⟩)
    have e5 : S.2.2 144 = S.2.2 362 := congrArg (fun m : mM => m.2.1) c0
    rw [e5]
theorem tw_variable {i : Nat} {S : mS} (h : Inv i S) (v w : Int32) : Tw 9 n_X5_variable n_X6_variable i [.int v, .int w] S := by
  have hI := h.s
  obtain ⟨n, -, -, ⟨c0, c1, c2⟩, -⟩ := id h
  have hW : ¬ S.1 251 = 0 → ∃ k0, WFk k0 (dV S) := fun z => by
    rw [← c0]
    exact (c2 (fun y => z (c1.mp y))).2.2.2.2
  refine s_C_variable (fun z => (c2 z).2.2.2.2) (fun e => ⟨⟨_, rfl⟩, ?_⟩) (fun e1 e2 => ⟨⟨_, rfl⟩, ?_⟩) (fun e1 e2 e3 => ⟨⟨_, rfl⟩, ?_⟩) (fun e1 e2 e3 => ⟨⟨_, rfl⟩, ?_⟩)
  · exact s_D_variable hW (fun _ => ⟨rfl, hI.th⟩) (fun z => absurd z e) (fun z => absurd z e) (fun z => absurd z e)
  · exact s_D_variable hW (fun z => absurd e1 z) (fun _ _ => ⟨rfl, hI.th⟩) (fun _ z => absurd z e2) (fun _ z => absurd z e2)
  · exact s_D_variable hW (fun z => absurd e1 z) (fun _ z => absurd e2 z) (fun _ _ _ => ⟨rfl, hI.th⟩) (fun _ _ z => absurd (c1.mp e3) z)
  · exact s_D_variable hW (fun z => absurd e1 z) (fun _ z => absurd e2 z) (fun _ _ z => absurd (c1.mpr z) e3) (fun _ _ _ => ⟨by rw [c0], hI.th⟩)
