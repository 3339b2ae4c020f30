theorem s_fill143_loop {d : Nat} {Q : mQ} {v : Int32} (S0 : mS) (hQ : ∀ S', Fr [] [143] S0 S' → S'.2.2 143 = fillC (S0.2.2 143) 0 v 6 → Q none S') : ∀ (k j : Nat) (S : mS), j + k = 6 → Fr [] [143] S0 S → S.2.2 143 = fillC (S0.2.2 143) 0 v j →
    Wp d n_J7_fill_53178 5 [(2, .int (nI j)), (3, .int (nI 6)), (0, .ref 143), (1, .int v)] [] S Q := by
  intro k
  induction k with
  | zero =>
    intro j S hj hF hC
    obtain rfl : j = 6 := by omega
    iterate 2 refine Wp.p rfl ?_
    refine Wp.b rfl (fun _ => ?_) (fun c => absurd (nI_le (Nat.le_refl _) (by omega)) c)
    exact Wp.r rfl trivial (hQ S hF hC)
  | succ k ih =>
    intro j S hj hF hC
    have hlt : j < 6 := by omega
    iterate 2 refine Wp.p rfl ?_
    refine Wp.b rfl (fun c => absurd c (nI_ge hlt (by omega))) (fun _ => ?_)
    repeat refine Wp.p rfl ?_
    refine Wp.g rfl (vp_in_nI (N := 6) hlt (by omega)) ?_
    iterate 2 refine Wp.p rfl ?_
    show Wp d n_J7_fill_53178 5 [(2, .int (nI j + 1)), (3, .int (nI 6)), (0, .ref 143), (1, .int v)] [] _ Q
    rw [nI_1]
    refine ih (j + 1) _ (by omega) (hF.a (by decide)) ?_
    show upd (S.2.2 143) (nI j).toNatClampNeg v = upd (fillC (S0.2.2 143) 0 v j) (0 + j) v
    rw [nI_clamp (by omega), hC, Nat.zero_add]
theorem s_fill143 {d : Nat} {S : mS} {Q : mQ} {v : Int32} (h : ∀ S', Fr [] [143] S S' → S'.2.2 143 = fillC (S.2.2 143) 0 v 6 → Q none S') : Ev d n_J7_fill_53178 [.ref 143, .int v] S Q := by
  iterate 3 refine Wp.p rfl ?_
  refine Wp.g rfl trivial ?_
  iterate 3 refine Wp.p rfl ?_
  refine Wp.b rfl (fun (c : nI 6 ≤ nI 0) => absurd c (nI_ge (by decide) (by decide))) (fun _ => ?_)
  repeat refine Wp.p rfl ?_
  refine Wp.g rfl (vp_in_nI (n := 0) (N := 6) (by decide) (by decide)) ?_
  iterate 2 refine Wp.p rfl ?_
  exact s_fill143_loop S h 5 1 _ (by omega) (Fr.rf.a (by decide)) rfl
theorem s_fill144_loop {d : Nat} {Q : mQ} {v : Int32} (S0 : mS) (hQ : ∀ S', Fr [] [144] S0 S' → S'.2.2 144 = fillC (S0.2.2 144) 0 v 4 → Q none S') : ∀ (k j : Nat) (S : mS), j + k = 4 → Fr [] [144] S0 S → S.2.2 144 = fillC (S0.2.2 144) 0 v j →
    Wp d n_J7_fill_53178 5 [(2, .int (nI j)), (3, .int (nI 4)), (0, .ref 144), (1, .int v)] [] S Q := by
  intro k
  induction k with
  | zero =>
    intro j S hj hF hC
    obtain rfl : j = 4 := by omega
    iterate 2 refine Wp.p rfl ?_
    refine Wp.b rfl (fun _ => ?_) (fun c => absurd (nI_le (Nat.le_refl _) (by omega)) c)
    exact Wp.r rfl trivial (hQ S hF hC)
  | succ k ih =>
    intro j S hj hF hC
    have hlt : j < 4 := by omega
    iterate 2 refine Wp.p rfl ?_
    refine Wp.b rfl (fun c => absurd c (nI_ge hlt (by omega))) (fun _ => ?_)
    repeat refine Wp.p rfl ?_
    refine Wp.g rfl (vp_in_nI (N := 4) hlt (by omega)) ?_
    iterate 2 refine Wp.p rfl ?_
    show Wp d n_J7_fill_53178 5 [(2, .int (nI j + 1)), (3, .int (nI 4)), (0, .ref 144), (1, .int v)] [] _ Q
    rw [nI_1]
    refine ih (j + 1) _ (by omega) (hF.a (by decide)) ?_
    show upd (S.2.2 144) (nI j).toNatClampNeg v = upd (fillC (S0.2.2 144) 0 v j) (0 + j) v
    rw [nI_clamp (by omega), hC, Nat.zero_add]
theorem s_fill144 {d : Nat} {S : mS} {Q : mQ} {v : Int32} (h : ∀ S', Fr [] [144] S S' → S'.2.2 144 = fillC (S.2.2 144) 0 v 4 → Q none S') : Ev d n_J7_fill_53178 [.ref 144, .int v] S Q := by
  iterate 3 refine Wp.p rfl ?_
  refine Wp.g rfl trivial ?_
  iterate 3 refine Wp.p rfl ?_
  refine Wp.b rfl (fun (c : nI 4 ≤ nI 0) => absurd c (nI_ge (by decide) (by decide))) (fun _ => ?_)
  repeat refine Wp.p rfl ?_
  refine Wp.g rfl (vp_in_nI (n := 0) (N := 4) (by decide) (by decide)) ?_
  iterate 2 refine Wp.p rfl ?_
  exact s_fill144_loop S h 3 1 _ (by omega) (Fr.rf.a (by decide)) rfl
theorem s_fill260_loop {d : Nat} {Q : mQ} {v : Int32} (S0 : mS) (hQ : ∀ S', Fr [] [260] S0 S' → S'.2.2 260 = fillC (S0.2.2 260) 0 v 192 → Q none S') : ∀ (k j : Nat) (S : mS), j + k = 192 → Fr [] [260] S0 S → S.2.2 260 = fillC (S0.2.2 260) 0 v j →
    Wp d n_J7_fill_53178 5 [(2, .int (nI j)), (3, .int (nI 192)), (0, .ref 260), (1, .int v)] [] S Q := by
  intro k
  induction k with
  | zero =>
    intro j S hj hF hC
    obtain rfl : j = 192 := by omega
    iterate 2 refine Wp.p rfl ?_
    refine Wp.b rfl (fun _ => ?_) (fun c => absurd (nI_le (Nat.le_refl _) (by omega)) c)
    exact Wp.r rfl trivial (hQ S hF hC)
  | succ k ih =>
    intro j S hj hF hC
    have hlt : j < 192 := by omega
    iterate 2 refine Wp.p rfl ?_
    refine Wp.b rfl (fun c => absurd c (nI_ge hlt (by omega))) (fun _ => ?_)
    repeat refine Wp.p rfl ?_
    refine Wp.g rfl (vp_in_nI (N := 192) hlt (by omega)) ?_
    iterate 2 refine Wp.p rfl ?_
    show Wp d n_J7_fill_53178 5 [(2, .int (nI j + 1)), (3, .int (nI 192)), (0, .ref 260), (1, .int v)] [] _ Q
    rw [nI_1]
    refine ih (j + 1) _ (by omega) (hF.a (by decide)) ?_
    show upd (S.2.2 260) (nI j).toNatClampNeg v = upd (fillC (S0.2.2 260) 0 v j) (0 + j) v
    rw [nI_clamp (by omega), hC, Nat.zero_add]
theorem s_fill260 {d : Nat} {S : mS} {Q : mQ} {v : Int32} (h : ∀ S', Fr [] [260] S S' → S'.2.2 260 = fillC (S.2.2 260) 0 v 192 → Q none S') : Ev d n_J7_fill_53178 [.ref 260, .int v] S Q := by
  iterate 3 refine Wp.p rfl ?_
  refine Wp.g rfl trivial ?_
  iterate 3 refine Wp.p rfl ?_
  refine Wp.b rfl (fun (c : nI 192 ≤ nI 0) => absurd c (nI_ge (by decide) (by decide))) (fun _ => ?_)
  repeat refine Wp.p rfl ?_
  refine Wp.g rfl (vp_in_nI (n := 0) (N := 192) (by decide) (by decide)) ?_
  iterate 2 refine Wp.p rfl ?_
  exact s_fill260_loop S h 191 1 _ (by omega) (Fr.rf.a (by decide)) rfl
theorem s_fill261_loop {d : Nat} {Q : mQ} {v : Int32} (S0 : mS) (hQ : ∀ S', Fr [] [261] S0 S' → S'.2.2 261 = fillC (S0.2.2 261) 0 v 32 → Q none S') : ∀ (k j : Nat) (S : mS), j + k = 32 → Fr [] [261] S0 S → S.2.2 261 = fillC (S0.2.2 261) 0 v j →
    Wp d n_J7_fill_53178 5 [(2, .int (nI j)), (3, .int (nI 32)), (0, .ref 261), (1, .int v)] [] S Q := by
  intro k
  induction k with
  | zero =>
    intro j S hj hF hC
    obtain rfl : j = 32 := by omega
    iterate 2 refine Wp.p rfl ?_
    refine Wp.b rfl (fun _ => ?_) (fun c => absurd (nI_le (Nat.le_refl _) (by omega)) c)
    exact Wp.r rfl trivial (hQ S hF hC)
  | succ k ih =>
    intro j S hj hF hC
    have hlt : j < 32 := by omega
    iterate 2 refine Wp.p rfl ?_
    refine Wp.b rfl (fun c => absurd c (nI_ge hlt (by omega))) (fun _ => ?_)
    repeat refine Wp.p rfl ?_
    refine Wp.g rfl (vp_in_nI (N := 32) hlt (by omega)) ?_
    iterate 2 refine Wp.p rfl ?_
    show Wp d n_J7_fill_53178 5 [(2, .int (nI j + 1)), (3, .int (nI 32)), (0, .ref 261), (1, .int v)] [] _ Q
    rw [nI_1]
    refine ih (j + 1) _ (by omega) (hF.a (by decide)) ?_
    show upd (S.2.2 261) (nI j).toNatClampNeg v = upd (fillC (S0.2.2 261) 0 v j) (0 + j) v
    rw [nI_clamp (by omega), hC, Nat.zero_add]
theorem s_fill261 {d : Nat} {S : mS} {Q : mQ} {v : Int32} (h : ∀ S', Fr [] [261] S S' → S'.2.2 261 = fillC (S.2.2 261) 0 v 32 → Q none S') : Ev d n_J7_fill_53178 [.ref 261, .int v] S Q := by
  iterate 3 refine Wp.p rfl ?_
  refine Wp.g rfl trivial ?_
  iterate 3 refine Wp.p rfl ?_
  refine Wp.b rfl (fun (c : nI 32 ≤ nI 0) => absurd c (nI_ge (by decide) (by decide))) (fun _ => ?_)
  repeat refine Wp.p rfl ?_
  refine Wp.g rfl (vp_in_nI (n := 0) (N := 32) (by decide) (by decide)) ?_
  iterate 2 refine Wp.p rfl ?_
  exact s_fill261_loop S h 31 1 _ (by omega) (Fr.rf.a (by decide)) rfl
theorem s_fill181_loop {d : Nat} {Q : mQ} {v : Int32} (S0 : mS) (hQ : ∀ S', Fr [] [181] S0 S' → S'.2.2 181 = fillC (S0.2.2 181) 0 v 192 → Q none S') : ∀ (k j : Nat) (S : mS), j + k = 192 → Fr [] [181] S0 S → S.2.2 181 = fillC (S0.2.2 181) 0 v j →
    Wp d n_J7_fill_53178 5 [(2, .int (nI j)), (3, .int (nI 192)), (0, .ref 181), (1, .int v)] [] S Q := by
  intro k
  induction k with
  | zero =>
    intro j S hj hF hC
    obtain rfl : j = 192 := by omega
    iterate 2 refine Wp.p rfl ?_
    refine Wp.b rfl (fun _ => ?_) (fun c => absurd (nI_le (Nat.le_refl _) (by omega)) c)
    exact Wp.r rfl trivial (hQ S hF hC)
  | succ k ih =>
    intro j S hj hF hC
    have hlt : j < 192 := by omega
    iterate 2 refine Wp.p rfl ?_
    refine Wp.b rfl (fun c => absurd c (nI_ge hlt (by omega))) (fun _ => ?_)
    repeat refine Wp.p rfl ?_
    refine Wp.g rfl (vp_in_nI (N := 192) hlt (by omega)) ?_
    iterate 2 refine Wp.p rfl ?_
    show Wp d n_J7_fill_53178 5 [(2, .int (nI j + 1)), (3, .int (nI 192)), (0, .ref 181), (1, .int v)] [] _ Q
    rw [nI_1]
    refine ih (j + 1) _ (by omega) (hF.a (by decide)) ?_
    show upd (S.2.2 181) (nI j).toNatClampNeg v = upd (fillC (S0.2.2 181) 0 v j) (0 + j) v
    rw [nI_clamp (by omega), hC, Nat.zero_add]
theorem s_fill181 {d : Nat} {S : mS} {Q : mQ} {v : Int32} (h : ∀ S', Fr [] [181] S S' → S'.2.2 181 = fillC (S.2.2 181) 0 v 192 → Q none S') : Ev d n_J7_fill_53178 [.ref 181, .int v] S Q := by
  iterate 3 refine Wp.p rfl ?_
  refine Wp.g rfl trivial ?_
  iterate 3 refine Wp.p rfl ?_
  refine Wp.b rfl (fun (c : nI 192 ≤ nI 0) => absurd c (nI_ge (by decide) (by decide))) (fun _ => ?_)
  repeat refine Wp.p rfl ?_
  refine Wp.g rfl (vp_in_nI (n := 0) (N := 192) (by decide) (by decide)) ?_
  iterate 2 refine Wp.p rfl ?_
  exact s_fill181_loop S h 191 1 _ (by omega) (Fr.rf.a (by decide)) rfl
theorem s_fill182_loop {d : Nat} {Q : mQ} {v : Int32} (S0 : mS) (hQ : ∀ S', Fr [] [182] S0 S' → S'.2.2 182 = fillC (S0.2.2 182) 0 v 3 → Q none S') : ∀ (k j : Nat) (S : mS), j + k = 3 → Fr [] [182] S0 S → S.2.2 182 = fillC (S0.2.2 182) 0 v j →
    Wp d n_J7_fill_53178 5 [(2, .int (nI j)), (3, .int (nI 3)), (0, .ref 182), (1, .int v)] [] S Q := by
  intro k
  induction k with
  | zero =>
    intro j S hj hF hC
    obtain rfl : j = 3 := by omega
    iterate 2 refine Wp.p rfl ?_
    refine Wp.b rfl (fun _ => ?_) (fun c => absurd (nI_le (Nat.le_refl _) (by omega)) c)
    exact Wp.r rfl trivial (hQ S hF hC)
  | succ k ih =>
    intro j S hj hF hC
    have hlt : j < 3 := by omega
    iterate 2 refine Wp.p rfl ?_
    refine Wp.b rfl (fun c => absurd c (nI_ge hlt (by omega))) (fun _ => ?_)
    repeat refine Wp.p rfl ?_
    refine Wp.g rfl (vp_in_nI (N := 3) hlt (by omega)) ?_
    iterate 2 refine Wp.p rfl ?_
    show Wp d n_J7_fill_53178 5 [(2, .int (nI j + 1)), (3, .int (nI 3)), (0, .ref 182), (1, .int v)] [] _ Q
    rw [nI_1]
    refine ih (j + 1) _ (by omega) (hF.a (by decide)) ?_
    show upd (S.2.2 182) (nI j).toNatClampNeg v = upd (fillC (S0.2.2 182) 0 v j) (0 + j) v
    rw [nI_clamp (by omega), hC, Nat.zero_add]
theorem s_fill182 {d : Nat} {S : mS} {Q : mQ} {v : Int32} (h : ∀ S', Fr [] [182] S S' → S'.2.2 182 = fillC (S.2.2 182) 0 v 3 → Q none S') : Ev d n_J7_fill_53178 [.ref 182, .int v] S Q := by
  iterate 3 refine Wp.p rfl ?_
  refine Wp.g rfl trivial ?_
  iterate 3 refine Wp.p rfl ?_
  refine Wp.b rfl (fun (c : nI 3 ≤ nI 0) => absurd c (nI_ge (by decide) (by decide))) (fun _ => ?_)
  repeat refine Wp.p rfl ?_
  refine Wp.g rfl (vp_in_nI (n := 0) (N := 3) (by decide) (by decide)) ?_
  iterate 2 refine Wp.p rfl ?_
  exact s_fill182_loop S h 2 1 _ (by omega) (Fr.rf.a (by decide)) rfl
theorem s_fill183_loop {d : Nat} {Q : mQ} {v : Int32} (S0 : mS) (hQ : ∀ S', Fr [] [183] S0 S' → S'.2.2 183 = fillC (S0.2.2 183) 0 v 6 → Q none S') : ∀ (k j : Nat) (S : mS), j + k = 6 → Fr [] [183] S0 S → S.2.2 183 = fillC (S0.2.2 183) 0 v j →
    Wp d n_J7_fill_53178 5 [(2, .int (nI j)), (3, .int (nI 6)), (0, .ref 183), (1, .int v)] [] S Q := by
  intro k
  induction k with
  | zero =>
    intro j S hj hF hC
    obtain rfl : j = 6 := by omega
    iterate 2 refine Wp.p rfl ?_
    refine Wp.b rfl (fun _ => ?_) (fun c => absurd (nI_le (Nat.le_refl _) (by omega)) c)
    exact Wp.r rfl trivial (hQ S hF hC)
  | succ k ih =>
    intro j S hj hF hC
    have hlt : j < 6 := by omega
    iterate 2 refine Wp.p rfl ?_
    refine Wp.b rfl (fun c => absurd c (nI_ge hlt (by omega))) (fun _ => ?_)
    repeat refine Wp.p rfl ?_
    refine Wp.g rfl (vp_in_nI (N := 6) hlt (by omega)) ?_
    iterate 2 refine Wp.p rfl ?_
    show Wp d n_J7_fill_53178 5 [(2, .int (nI j + 1)), (3, .int (nI 6)), (0, .ref 183), (1, .int v)] [] _ Q
    rw [nI_1]
    refine ih (j + 1) _ (by omega) (hF.a (by decide)) ?_
    show upd (S.2.2 183) (nI j).toNatClampNeg v = upd (fillC (S0.2.2 183) 0 v j) (0 + j) v
    rw [nI_clamp (by omega), hC, Nat.zero_add]
theorem s_fill183 {d : Nat} {S : mS} {Q : mQ} {v : Int32} (h : ∀ S', Fr [] [183] S S' → S'.2.2 183 = fillC (S.2.2 183) 0 v 6 → Q none S') : Ev d n_J7_fill_53178 [.ref 183, .int v] S Q := by
  iterate 3 refine Wp.p rfl ?_
  refine Wp.g rfl trivial ?_
  iterate 3 refine Wp.p rfl ?_
  refine Wp.b rfl (fun (c : nI 6 ≤ nI 0) => absurd c (nI_ge (by decide) (by decide))) (fun _ => ?_)
  repeat refine Wp.p rfl ?_
  refine Wp.g rfl (vp_in_nI (n := 0) (N := 6) (by decide) (by decide)) ?_
  iterate 2 refine Wp.p rfl ?_
  exact s_fill183_loop S h 5 1 _ (by omega) (Fr.rf.a (by decide)) rfl
theorem s_M_begin {d n : Nat} {S : mS} {Q : mQ} {x y : Int32} (h : ∀ S', Fr (163 :: cFS) cAS S S' → S'.1 163 = S.1 163 + 1 → cI S' S' 0 0 0 (fillC (S.2.2 143) 0 (-1) 6, upd (upd (fillC (S.2.2 144) 0 0 4) 0 x) 1 y, S.2.2 100, S.2.2 101, S.2.2 102, S.2.2 103, S.2.2 104, 0) (S.2.2 260) (S.2.2 261) → S'.1 162 = S.1 162 → Q none S') : Ev (d + 1) n_X1_begin [.ref 1, .int x, .int y] S Q := by
  repeat refine Wp.p rfl ?_
  refine Wp.i rfl (s_H_empty ?_)
  repeat refine Wp.p rfl ?_
  refine Wp.i rfl (s_fill143 (fun S1 hF1 h1 => ?_))
  repeat refine Wp.p rfl ?_
  refine Wp.i rfl (s_fill144 (fun S2 hF2 h2 => ?_))
  repeat refine Wp.p rfl ?_
  refine Wp.g rfl (show vp_in 0 4 by unfold vp_in; decide) ?_
  repeat refine Wp.p rfl ?_
  refine Wp.g rfl (show vp_in 1 4 by unfold vp_in; decide) ?_
  repeat refine Wp.p rfl ?_
  refine Wp.i rfl (s_W_noteRun ?_)
  have f2 : ∀ q, S2.1 q = upd S.1 5 0 q := fun q => (hF2.1 q (by simp)).trans (hF1.1 q (by simp))
  have a2 : ∀ q, q ∉ [143, 144] → S2.2.2 q = S.2.2 q := fun q hq => by
    simp only [List.mem_cons, List.not_mem_nil, or_false, not_or] at hq
    exact (hF2.2.2 q (by simpa using hq.2)).trans (hF1.2.2 q (by simpa using hq.1))
  have v2 : S2.2.2 143 = fillC (S.2.2 143) 0 (-1) 6 := (hF2.2.2 143 (by decide)).trans h1
  have n2 : S2.2.2 144 = fillC (S.2.2 144) 0 0 4 := by rw [h2, hF1.2.2 144 (by decide)]
  have l2 : S2.2.1 = S.2.1 := hF2.2.1.trans hF1.2.1
  have k163 : S2.1 163 = S.1 163 := f2 163
  have k162 : S2.1 162 = S.1 162 := f2 162
  have k5 : S2.1 5 = 0 := f2 5
  have hFF : Fr (163 :: cFS) cAS S S2 := ⟨fun q hq => by
    rw [f2 q]
    exact if_neg (fun e => hq (by rw [e]; decide)), l2, fun q hq => a2 q (fun z => hq (by
      simp only [List.mem_cons, List.not_mem_nil, or_false] at z
      rcases z with rfl | rfl <;> decide))⟩
  refine Wp.r rfl trivial (h _ ?_ ?_ ⟨Fr.rf, ?_, rfl, rfl, rfl, rfl, rfl, rfl, rfl, ?_, ?_, ?_⟩ k162)
  · exact ((((((((((hFF.a (by decide)).a (by decide)).f (by decide)).f (by decide)).f (by decide)).f (by decide)).f (by decide)).f (by decide)).f (by decide)).f (by decide))
  · show S2.1 163 + 1 = _
    rw [k163]
  · show (S2.2.2 143, upd (upd (S2.2.2 144) 0 x) 1 y, S2.2.2 100, S2.2.2 101, S2.2.2 102, S2.2.2 103, S2.2.2 104, S2.1 5) = _
    rw [v2, n2, a2 100 (by decide), a2 101 (by decide), a2 102 (by decide), a2 103 (by decide), a2 104 (by decide), k5]
  · show S2.1 162 = S2.1 162 + nI 0
    rw [nI_0, Int32.add_zero]
  · exact a2 260 (by decide)
  · exact a2 261 (by decide)
