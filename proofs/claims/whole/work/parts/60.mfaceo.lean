def dL (P : oP) (S S' : mS) : Prop := Fr [240, 263, 269] [366, 367, 368, 370] S S' ∧ S'.1 240 = 0 ∧ (¬ S'.1 263 = 0 → Lst P (mO S'))
theorem oQm.th {P : oP} {S : mS} {x : Int32} (h : oQm P S) : oQm P (sF S 240 x) := h.fr (fs := [240]) (as := []) (Fr.rf.f (by decide)) (by decide) (fun _ _ => List.not_mem_nil)
theorem dL.out {P : oP} {S : mS} (hl : ¬ S.1 263 = 0 → Lst P (mO S)) : dL P S (sF S 240 0) := ⟨Fr.rf.f (by decide), rfl, hl⟩
theorem s_m_tell0 {d : Nat} {S : mS} {Q : mQ} {P : oP} (hq : oQm P S) (hl : ¬ S.1 263 = 0 → Lst P (mO S)) (h : ∀ S', dL P S S' → ¬ S'.1 263 = 0 → oQm P S' → Q none S') : Ev (d + 3) n_X6_tell [.ref 6] (sF S 240 0) Q := by
  refine s_m_tell hq.th hl (fun S' hF h3 hL => h S' ⟨?_, ?_, fun _ => hL⟩ h3 (hq.th.fr hF (by decide) (by decide)))
  · exact ((Fr.rf (S := S)).f (q := 240) (x := 0) (by decide)).tr (hF.up (by decide) (by decide))
  · rw [hF.1 240 (by decide)]; rfl
theorem s_D_may {d : Nat} {S : mS} {Q : mQ} {P : oP} {s v : Int32} (hq : oQm P S) (hl : ¬ S.1 263 = 0 → Lst P (mO S)) (h : ∀ S' x, dL P S S' → (inS P s ∧ 0 ≤ v ∧ v < 6 → Lst P (mO S')) → aMay P (mO S') s v x → Q (some (.int x)) S') : Ev (d + 4) n_X6_may [.ref 6, .int s, .int v] S Q := by
  have hn := hq.1.1
  have out : ¬ (inS P s ∧ 0 ≤ v ∧ v < 6) → Q (some (.int (-1))) (sF S 240 0) := fun z => h _ _ (dL.out hl) (fun y => absurd y z) ⟨fun y => absurd y z, fun _ => rfl⟩
  repeat refine Wp.p rfl ?_
  refine Wp.i rfl (s_m_in (x := s) (lo := 0) (hi := S.1 241 - 1) rfl rfl ?_)
  rw [hq.2.1, bI_pred (by omega)]
  refine Wp.b rfl (fun (c : bI (0 ≤ s ∧ s < nI P.1) = 0) => ?_) (fun (c : ¬ bI (0 ≤ s ∧ s < nI P.1) = 0) => ?_)
  · repeat refine Wp.p rfl ?_
    exact Wp.r rfl trivial (out (fun z => bI_0.mp c z.1))
  have cs : inS P s := Decidable.not_not.mp (fun z => c (bI_0.mpr z))
  repeat refine Wp.p rfl ?_
  refine Wp.i rfl (s_m_in (x := v) (lo := 0) (hi := 5) rfl rfl ?_)
  rw [bI_le5]
  refine Wp.b rfl (fun (c : ¬ bI (0 ≤ v ∧ v < 6) = 0) => ?_) (fun (c : ¬ ¬ bI (0 ≤ v ∧ v < 6) = 0) => ?_)
  case refine_2 =>
    repeat refine Wp.p rfl ?_
    exact Wp.r rfl trivial (out (fun z => bI_0.mp (Decidable.not_not.mp c) z.2))
  have cv : 0 ≤ v ∧ v < 6 := Decidable.not_not.mp (fun z => c (bI_0.mpr z))
  obtain ⟨i, hi, rfl, ti⟩ := inS_i hn cs
  obtain ⟨lv, ev⟩ := V6 (in_of (n := 6) cv (by decide)) (by decide)
  iterate 1 refine Wp.p rfl ?_
  refine Wp.i rfl (s_m_tell0 hq hl (fun S' hD h3 hq' => ?_))
  iterate 7 refine Wp.p rfl ?_
  refine (?_ : Wp (d + 4) n_X6_may 49 [(0, .ref 6), (1, .int (nI i)), (2, .int v)] [.int (6 * nI i + v), .ref 366] S' Q)
  have e6 : 6 * nI i + v = nI (6 * i + tn v) := by
    have := ix6 i (tn v)
    rw [← ev] at this
    exact this
  rw [e6]
  refine Wp.g rfl (vp_in_nI (N := 192) (by omega) (by omega)) ?_
  refine Wp.r rfl trivial (h S' _ hD (fun _ => hD.2.2 h3) ⟨fun _ => ?_, fun z => absurd ⟨cs, cv⟩ z⟩)
  show S'.2.2 366 (tn (nI (6 * i + tn v))) = S'.2.2 366 (6 * tn (nI i) + tn v)
  rw [tn_nI (by omega), ti]
theorem s_D_faults {d : Nat} {S : mS} {Q : mQ} {P : oP} {s : Int32} (hq : oQm P S) (hl : ¬ S.1 263 = 0 → Lst P (mO S)) (h : ∀ S' x, dL P S S' → (inS P s → Lst P (mO S')) → aFlt P (mO S') s x → Q (some (.int x)) S') : Ev (d + 4) n_X6_faults [.ref 6, .int s] S Q := by
  have hn := hq.1.1
  repeat refine Wp.p rfl ?_
  refine Wp.i rfl (s_m_in (x := s) (lo := 0) (hi := S.1 241 - 1) rfl rfl ?_)
  rw [hq.2.1, bI_pred (by omega)]
  refine Wp.b rfl (fun (c : ¬ bI (0 ≤ s ∧ s < nI P.1) = 0) => ?_) (fun (c : ¬ ¬ bI (0 ≤ s ∧ s < nI P.1) = 0) => ?_)
  case refine_2 =>
    repeat refine Wp.p rfl ?_
    have c' := bI_0.mp (Decidable.not_not.mp c)
    exact Wp.r rfl trivial (h _ _ (dL.out hl) (fun y => absurd y c') ⟨fun y => absurd y c', fun _ => rfl⟩)
  have cs : inS P s := Decidable.not_not.mp (fun z => c (bI_0.mpr z))
  obtain ⟨i, hi, rfl, ti⟩ := inS_i hn cs
  have ii : vp_in (nI i) 32 := vp_in_nI (N := 32) (by omega) (by omega)
  iterate 1 refine Wp.p rfl ?_
  refine Wp.i rfl (s_m_tell0 hq hl (fun S' hD h3 hq' => ?_))
  have hL := hD.2.2 h3
  iterate 3 refine Wp.p rfl ?_
  refine Wp.g rfl ii ?_
  refine Wp.b rfl (fun (c : S'.2.2 367 (tn (nI i)) = 0) => ?_) (fun (c : ¬ S'.2.2 367 (tn (nI i)) = 0) => ?_)
  · rw [ti] at c
    iterate 1 refine Wp.p rfl ?_
    exact Wp.r rfl trivial (h S' _ hD (fun _ => hL) ⟨fun _ => by rw [ti, if_neg (fun z => mO_c.mp z c)], fun z => absurd cs z⟩)
  · rw [ti] at c
    iterate 2 refine Wp.p rfl ?_
    refine Wp.i rfl (s_m_faultsOf hq' hL.1 hi ?_)
    iterate 1 refine Wp.p rfl ?_
    exact Wp.r rfl trivial (h S' _ hD (fun _ => hL) ⟨fun _ => by rw [ti, if_pos (mO_c.mpr c)], fun z => absurd cs z⟩)
theorem s_D_cast {d : Nat} {S : mS} {Q : mQ} {P : oP} {s : Int32} (hq : oQm P S) (hl : ¬ S.1 263 = 0 → Lst P (mO S)) (h : ∀ S' x, dL P S S' → (inS P s → Lst P (mO S')) → aCst P (mO S') s x → Q (some (.int x)) S') : Ev (d + 4) n_X6_cast [.ref 6, .int s] S Q := by
  have hn := hq.1.1
  repeat refine Wp.p rfl ?_
  refine Wp.i rfl (s_m_in (x := s) (lo := 0) (hi := S.1 241 - 1) rfl rfl ?_)
  rw [hq.2.1, bI_pred (by omega)]
  refine Wp.b rfl (fun (c : ¬ bI (0 ≤ s ∧ s < nI P.1) = 0) => ?_) (fun (c : ¬ ¬ bI (0 ≤ s ∧ s < nI P.1) = 0) => ?_)
  case refine_2 =>
    repeat refine Wp.p rfl ?_
    have c' := bI_0.mp (Decidable.not_not.mp c)
    exact Wp.r rfl trivial (h _ _ (dL.out hl) (fun y => absurd y c') ⟨fun y => absurd y c', fun _ => rfl⟩)
  have cs : inS P s := Decidable.not_not.mp (fun z => c (bI_0.mpr z))
  obtain ⟨i, hi, rfl, ti⟩ := inS_i hn cs
  have ii : vp_in (nI i) 32 := vp_in_nI (N := 32) (by omega) (by omega)
  iterate 1 refine Wp.p rfl ?_
  refine Wp.i rfl (s_m_tell0 hq hl (fun S' hD h3 hq' => ?_))
  have hL := hD.2.2 h3
  obtain ⟨-, -, e0, e1, e2, e3, e4⟩ := hq'
  obtain ⟨⟨k, hk, hw⟩, -⟩ := hq.1.2 i hi
  have fin : ∀ x : Int32, x = (if P.2.1 i = 6 ∧ (mO S').2.2 i = true then castA ((mO S').1 (6 * i + tn (P.2.2.1 i))) (m_sv 500 (tn (P.2.2.2.1 i))) else -3) → Q (some (.int x)) S' := fun x hx => h S' x hD (fun _ => hL) ⟨fun _ => by rw [ti]; exact hx, fun z => absurd cs z⟩
  have no : ¬ (P.2.1 i = 6 ∧ (mO S').2.2 i = true) → Wp (d + 4) n_X6_cast 47 [(0, .ref 6), (1, .int (nI i))] [] S' Q := fun z => by
    iterate 1 refine Wp.p rfl ?_
    exact Wp.r rfl trivial (fin _ (if_neg z).symm)
  iterate 3 refine Wp.p rfl ?_
  refine Wp.g rfl ii ?_
  iterate 1 refine Wp.p rfl ?_
  refine Wp.b rfl (fun (c : ¬ S'.2.2 342 (tn (nI i)) = 6) => ?_) (fun (c : ¬ ¬ S'.2.2 342 (tn (nI i)) = 6) => ?_)
  · rw [ti, e0] at c
    exact no (fun z => c z.1)
  have c6 : P.2.1 i = 6 := by rw [ti, e0] at c; exact Decidable.not_not.mp c
  have k6 : k = 6 := by
    have hk24 := hw.1
    rw [c6] at hk
    have := congrArg tn hk
    rw [tn_nI (by omega)] at this
    exact this.symm
  subst k6
  have va : vp_in (P.2.2.1 i) 6 := in_of (n := 6) (hw.2.1.1 rfl) (by decide)
  have vb : vp_in (P.2.2.2.1 i) 11 := in_of (n := 11) (hw.2.2.1.2.2.2.2.1 rfl) (by decide)
  obtain ⟨la, ea⟩ := V6 va (by decide)
  iterate 3 refine Wp.p rfl ?_
  refine Wp.g rfl ii ?_
  refine Wp.b rfl (fun (c : ¬ S'.2.2 367 (tn (nI i)) = 0) => ?_) (fun (c : ¬ ¬ S'.2.2 367 (tn (nI i)) = 0) => ?_)
  case refine_2 =>
    rw [ti] at c
    exact no (fun z => absurd (mO_c.mp z.2) c)
  rw [ti] at c
  rw [show (if P.2.1 i = 6 ∧ (mO S').2.2 i = true then castA ((mO S').1 (6 * i + tn (P.2.2.1 i))) (m_sv 500 (tn (P.2.2.2.1 i))) else -3) = castA ((mO S').1 (6 * i + tn (P.2.2.1 i))) (m_sv 500 (tn (P.2.2.2.1 i))) from if_pos ⟨c6, mO_c.mpr c⟩] at fin
  unfold castA at fin
  iterate 8 refine Wp.p rfl ?_
  refine Wp.g rfl ii ?_
  iterate 1 refine Wp.p rfl ?_
  refine (?_ : Wp (d + 4) n_X6_cast 65 [(0, .ref 6), (1, .int (nI i))] [.int (6 * nI i + S'.2.2 343 (tn (nI i))), .ref 366] S' Q)
  have e6 : 6 * nI i + P.2.2.1 i = nI (6 * i + tn (P.2.2.1 i)) := by
    have := ix6 i (tn (P.2.2.1 i))
    rw [← ea] at this
    exact this
  rw [ti, e1, e6]
  refine Wp.g rfl (vp_in_nI (N := 192) (by omega) (by omega)) ?_
  iterate 1 refine Wp.p rfl ?_
  refine (?_ : Wp (d + 4) n_X6_cast 67 [(2, .int (S'.2.2 366 (tn (nI (6 * i + tn (P.2.2.1 i)))))), (0, .ref 6), (1, .int (nI i))] [] S' Q)
  rw [tn_nI (by omega)]
  iterate 4 refine Wp.p rfl ?_
  refine Wp.g rfl ii ?_
  refine (?_ : Wp (d + 4) n_X6_cast 74 [(2, .int (S'.2.2 366 (6 * i + tn (P.2.2.1 i)))), (0, .ref 6), (1, .int (nI i))] [.int (S'.2.2 344 (tn (nI i))), .int (S'.2.2 366 (6 * i + tn (P.2.2.1 i)))] S' Q)
  rw [ti, e2]
  refine Wp.i rfl (s_m_bitsOf vb ?_)
  iterate 6 refine Wp.p rfl ?_
  refine Wp.b rfl (fun (z : ¬ S'.2.2 366 (6 * i + tn (P.2.2.1 i)) &&& (m_sv 500 (tn (P.2.2.2.1 i)) ||| 1) = S'.2.2 366 (6 * i + tn (P.2.2.1 i))) => ?_) (fun (z : ¬ ¬ S'.2.2 366 (6 * i + tn (P.2.2.1 i)) &&& (m_sv 500 (tn (P.2.2.2.1 i)) ||| 1) = S'.2.2 366 (6 * i + tn (P.2.2.1 i))) => ?_)
  case refine_2 =>
    iterate 2 refine Wp.p rfl ?_
    exact Wp.r rfl trivial (fin _ (if_pos (Decidable.not_not.mp z)).symm)
  iterate 1 refine Wp.p rfl ?_
  refine Wp.b rfl (fun (z2 : ¬ S'.2.2 366 (6 * i + tn (P.2.2.1 i)) &&& (m_sv 500 (tn (P.2.2.2.1 i)) ||| 1) = 0) => ?_) (fun (z2 : ¬ ¬ S'.2.2 366 (6 * i + tn (P.2.2.1 i)) &&& (m_sv 500 (tn (P.2.2.2.1 i)) ||| 1) = 0) => ?_)
  · iterate 1 refine Wp.p rfl ?_
    exact Wp.r rfl trivial (fin 1 ((if_neg z).trans (if_neg z2)).symm)
  · iterate 2 refine Wp.p rfl ?_
    exact Wp.r rfl trivial (fin 2 ((if_neg z).trans (if_pos (Decidable.not_not.mp z2))).symm)
theorem s_D_all {d : Nat} {S : mS} {Q : mQ} {P : oP} {w : Int32} (hq : oQm P S) (hl : ¬ S.1 263 = 0 → Lst P (mO S)) (h : ∀ S' x, dL P S S' → (0 ≤ w ∧ w ≤ 2 → Lst P (mO S')) → aAll (mO S') w x → Q (some (.int x)) S') : Ev (d + 4) n_X6_all [.ref 6, .int w] S Q := by
  repeat refine Wp.p rfl ?_
  refine Wp.i rfl (s_m_in (x := w) (lo := 0) (hi := 2) rfl rfl ?_)
  refine Wp.b rfl (fun (c : ¬ bI (0 ≤ w ∧ w ≤ 2) = 0) => ?_) (fun (c : ¬ ¬ bI (0 ≤ w ∧ w ≤ 2) = 0) => ?_)
  case refine_2 =>
    repeat refine Wp.p rfl ?_
    have c' := bI_0.mp (Decidable.not_not.mp c)
    exact Wp.r rfl trivial (h _ _ (dL.out hl) (fun y => absurd y c') ⟨fun y => absurd y c', fun _ => rfl⟩)
  have cw : 0 ≤ w ∧ w ≤ 2 := Decidable.not_not.mp (fun z => c (bI_0.mpr z))
  obtain ⟨j, -, hj, rfl⟩ := of_rng (lo := 0) (hi := 2) rfl rfl (by decide) (by decide) cw.1 cw.2
  iterate 1 refine Wp.p rfl ?_
  refine Wp.i rfl (s_m_tell0 hq hl (fun S' hD h3 hq' => ?_))
  iterate 3 refine Wp.p rfl ?_
  refine Wp.g rfl (vp_in_nI (N := 3) (by omega) (by omega)) ?_
  exact Wp.r rfl trivial (h S' _ hD (fun _ => hD.2.2 h3) ⟨fun _ => rfl, fun z => absurd cw z⟩)
