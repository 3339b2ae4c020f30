theorem s_O_cellsIn {d : Nat} {S : mS} {Q : mQ} {al : Nat → Int32} (h1 : al 1 = S.2.2 182 1) (h2 : al 2 = S.2.2 182 2) : ∀ x, x < 10 → Q (some (.int (cellI x al))) S → Ev d n_X2_cellsIn [.ref 2, .int (nI x)] S Q := by
  intro x hx h
  match x, hx with
  | 0, _ =>
    iterate 4 refine Wp.p rfl ?_
    refine Wp.g rfl (show vp_in (nI 0) 10 by unfold vp_in; decide) ?_
    exact Wp.r rfl trivial h
  | 1, _ =>
    iterate 4 refine Wp.p rfl ?_
    refine Wp.g rfl (show vp_in (nI 1) 10 by unfold vp_in; decide) ?_
    exact Wp.r rfl trivial h
  | 2, _ =>
    iterate 4 refine Wp.p rfl ?_
    refine Wp.g rfl (show vp_in (nI 2) 10 by unfold vp_in; decide) ?_
    exact Wp.r rfl trivial h
  | 3, _ =>
    iterate 4 refine Wp.p rfl ?_
    refine Wp.g rfl (show vp_in (nI 3) 10 by unfold vp_in; decide) ?_
    exact Wp.r rfl trivial h
  | 4, _ =>
    iterate 4 refine Wp.p rfl ?_
    refine Wp.g rfl (show vp_in (nI 4) 10 by unfold vp_in; decide) ?_
    exact Wp.r rfl trivial h
  | 5, _ =>
    iterate 4 refine Wp.p rfl ?_
    refine Wp.g rfl (show vp_in (nI 5) 10 by unfold vp_in; decide) ?_
    exact Wp.r rfl trivial h
  | 6, _ =>
    iterate 4 refine Wp.p rfl ?_
    refine Wp.g rfl (show vp_in (nI 6) 10 by unfold vp_in; decide) ?_
    exact Wp.r rfl trivial h
  | 7, _ =>
    have h : Q (some (.int (al 1))) S := h
    rw [h1] at h
    iterate 5 refine Wp.p rfl ?_
    refine Wp.g rfl (show vp_in 1 3 by unfold vp_in; decide) ?_
    exact Wp.r rfl trivial h
  | 8, _ =>
    have h : Q (some (.int (al 2))) S := h
    rw [h2] at h
    iterate 5 refine Wp.p rfl ?_
    refine Wp.g rfl (show vp_in 2 3 by unfold vp_in; decide) ?_
    exact Wp.r rfl trivial h
  | 9, _ =>
    iterate 4 refine Wp.p rfl ?_
    refine Wp.g rfl (show vp_in (nI 9) 10 by unfold vp_in; decide) ?_
    exact Wp.r rfl trivial h
theorem s_O_mfo_it {d x j : Nat} {S : mS} {Q : mQ} {al : Nat → Int32} {g t : Int32} {p : Prop} [Decidable p] (h1 : al 1 = S.2.2 182 1) (h2 : al 2 = S.2.2 182 2) (hx : x < 10) (hj : j < 10)
    (h : Wp (d + 1) n_X2_moveFaultsOf 24 [(5, .int (nI (j + 1))), (4, .int (bI (p ∨ hb g j = true ∧ sh (cellI x al) (m_sv 501 j ^^^ -1)))), (3, .int g), (0, .ref 2), (1, .int (nI x)), (2, .int t)] [] S Q) :
    Wp (d + 1) n_X2_moveFaultsOf 24 [(5, .int (nI j)), (4, .int (bI p)), (3, .int g), (0, .ref 2), (1, .int (nI x)), (2, .int t)] [] S Q := by
  have tj : tn (nI j) = j := tn_nI (by omega)
  have fin : ∀ z : Int32, z = bI (p ∨ hb g j = true ∧ sh (cellI x al) (m_sv 501 j ^^^ -1)) → Wp (d + 1) n_X2_moveFaultsOf 69 [(5, .int (nI j)), (4, .int (bI p)), (3, .int g), (0, .ref 2), (1, .int (nI x)), (2, .int t)] [.int z] S Q := fun z hz => by
    rw [← hz, ← nI_1] at h
    iterate 3 refine Wp.p rfl ?_
    exact h.sub (lS.mk rfl rfl (by repeat (first | exact lSub.nil | refine lSub.cons rfl ?_)))
  iterate 2 refine Wp.p rfl ?_
  refine Wp.b rfl (fun (c : (10 : Int32) ≤ nI j) => absurd c (nI_ge (b := 10) hj (by decide))) (fun _ => ?_)
  iterate 1 refine Wp.p rfl ?_
  refine Wp.b rfl (fun (c : ¬ bI p = 0) => ?_) (fun (c : ¬ ¬ bI p = 0) => ?_)
  · iterate 2 refine Wp.p rfl ?_
    exact fin 1 (bI_t (Or.inl (Decidable.not_not.mp (fun z => c (bI_0.mpr z))))).symm
  · have np : ¬ p := bI_0.mp (Decidable.not_not.mp c)
    iterate 2 refine Wp.p rfl ?_
    refine Wp.i rfl (s_holdsI (by omega) ?_)
    refine Wp.b rfl (fun (e : bI (hb g j = true) = 0) => ?_) (fun (e : ¬ bI (hb g j = true) = 0) => ?_)
    · iterate 1 refine Wp.p rfl ?_
      exact fin 0 (bI_f (fun z => z.elim np (fun y => bI_0.mp e y.1))).symm
    · iterate 2 refine Wp.p rfl ?_
      refine Wp.i rfl (s_O_cellsIn h1 h2 x hx ?_)
      iterate 2 refine Wp.p rfl ?_
      refine Wp.g rfl (vp_in_nI (N := 10) hj (by omega)) ?_
      iterate 2 refine Wp.p rfl ?_
      refine Wp.i rfl (s_shareI (x := cellI x al) (y := m_sv 501 (tn (nI j)) ^^^ -1) ?_)
      rw [tj]
      refine Wp.b rfl (fun (e2 : bI (sh (cellI x al) (m_sv 501 j ^^^ -1)) = 0) => ?_) (fun (e2 : ¬ bI (sh (cellI x al) (m_sv 501 j ^^^ -1)) = 0) => ?_)
      · iterate 1 refine Wp.p rfl ?_
        exact fin 0 (bI_f (fun z => z.elim np (fun y => bI_0.mp e2 y.2))).symm
      · iterate 2 refine Wp.p rfl ?_
        exact fin 1 (bI_t (Or.inr ⟨Decidable.not_not.mp (fun z => e (bI_0.mpr z)), Decidable.not_not.mp (fun z => e2 (bI_0.mpr z))⟩)).symm
theorem s_O_moveFaultsOf {d x : Nat} {S : mS} {Q : mQ} {al : Nat → Int32} {t : Int32} (h1 : al 1 = S.2.2 182 1) (h2 : al 2 = S.2.2 182 2) (hx : x < 10) (h : Q (some (.int (frX x t al))) S) : Ev (d + 1) n_X2_moveFaultsOf [.ref 2, .int (nI x), .int t] S Q := by
  have tx : tn (nI x) = x := tn_nI (by omega)
  have go : ∀ z : Int32, z = bI (¬ t &&& m_sv 502 x = t) → Wp (d + 1) n_X2_moveFaultsOf 18 [(3, .int (t &&& m_sv 502 x)), (0, .ref 2), (1, .int (nI x)), (2, .int t)] [.int z] S Q := fun z hz => by
    rw [hz]
    iterate 3 refine Wp.p rfl ?_
    refine (?_ : Wp (d + 1) n_X2_moveFaultsOf 24 [(5, .int (nI 7)), (4, .int (bI (¬ t &&& m_sv 502 x = t))), (3, .int (t &&& m_sv 502 x)), (0, .ref 2), (1, .int (nI x)), (2, .int t)] [] S Q).sub (lS.mk rfl rfl (by repeat (first | exact lSub.nil | refine lSub.cons rfl ?_)))
    refine s_O_mfo_it h1 h2 hx (by omega) (s_O_mfo_it h1 h2 hx (by omega) (s_O_mfo_it h1 h2 hx (by omega) ?_))
    iterate 2 refine Wp.p rfl ?_
    refine Wp.bT rfl (by decide) ?_
    iterate 2 refine Wp.p rfl ?_
    refine Wp.i rfl (s_faultI (c := 16) (by decide) ?_)
    have e1 : (if ((¬ t &&& m_sv 502 x = t ∨ hb (t &&& m_sv 502 x) 7 = true ∧ sh (cellI x al) (m_sv 501 7 ^^^ -1)) ∨ hb (t &&& m_sv 502 x) (7 + 1) = true ∧ sh (cellI x al) (m_sv 501 (7 + 1) ^^^ -1)) ∨ hb (t &&& m_sv 502 x) (7 + 1 + 1) = true ∧ sh (cellI x al) (m_sv 501 (7 + 1 + 1) ^^^ -1) then (16 : Int32) else 0) = if unF x t al then 16 else 0 := by
      have : (((¬ t &&& m_sv 502 x = t ∨ hb (t &&& m_sv 502 x) 7 = true ∧ sh (cellI x al) (m_sv 501 7 ^^^ -1)) ∨ hb (t &&& m_sv 502 x) (7 + 1) = true ∧ sh (cellI x al) (m_sv 501 (7 + 1) ^^^ -1)) ∨ hb (t &&& m_sv 502 x) (7 + 1 + 1) = true ∧ sh (cellI x al) (m_sv 501 (7 + 1 + 1) ^^^ -1)) ↔ unF x t al := by
        rw [or_assoc, or_assoc]
        exact Iff.rfl
      by_cases c : unF x t al
      · rw [if_pos c, if_pos (this.mpr c)]
      · rw [if_neg c, if_neg (fun z => c (this.mp z))]
    rw [e1]
    have fin : ∀ z : Int32, z = bI (sh t (m_sv 502 x)) → Wp (d + 1) n_X2_moveFaultsOf 92 [(5, .int (nI (7 + 1 + 1 + 1))), (3, .int (t &&& m_sv 502 x)), (0, .ref 2), (1, .int (nI x)), (2, .int t)] [.int z, .int (if unF x t al then 16 else 0)] S Q := fun z hz => by
      rw [hz]
      iterate 1 refine Wp.p rfl ?_
      refine Wp.i rfl (s_faultI (c := 8) (by decide) ?_)
      iterate 1 refine Wp.p rfl ?_
      exact Wp.r rfl trivial h
    iterate 1 refine Wp.p rfl ?_
    refine Wp.b rfl (fun (c : t &&& m_sv 502 x = 0) => ?_) (fun (c : ¬ t &&& m_sv 502 x = 0) => ?_)
    · iterate 1 refine Wp.p rfl ?_
      exact (fin 0 (bI_f (fun z => z c)).symm).sub (lS.mk rfl rfl (by repeat (first | exact lSub.nil | refine lSub.cons rfl ?_)))
    · iterate 2 refine Wp.p rfl ?_
      exact (fin 1 (bI_t c).symm).sub (lS.mk rfl rfl (by repeat (first | exact lSub.nil | refine lSub.cons rfl ?_)))
  iterate 3 refine Wp.p rfl ?_
  refine Wp.g rfl (vp_in_nI (N := 10) hx (by omega)) ?_
  iterate 4 refine Wp.p rfl ?_
  refine (?_ : Wp (d + 1) n_X2_moveFaultsOf 10 [(3, .int (t &&& m_sv 502 (tn (nI x)))), (0, .ref 2), (1, .int (nI x)), (2, .int t)] [.int t, .int (t &&& m_sv 502 (tn (nI x)))] S Q)
  rw [tx]
  refine Wp.b rfl (fun (c : t &&& m_sv 502 x = t) => ?_) (fun (c : ¬ t &&& m_sv 502 x = t) => ?_)
  · iterate 1 refine Wp.p rfl ?_
    exact go 0 (bI_f (fun z => z c)).symm
  · iterate 2 refine Wp.p rfl ?_
    exact go 1 (bI_t c).symm
theorem s_O_mvf_it {d j : Nat} {S : mS} {Q : mQ} {al : Nat → Int32} {f t g : Int32} (h1 : al 1 = S.2.2 182 1) (h2 : al 2 = S.2.2 182 2) (hj : j < 10)
    (h : Wp (d + 2) n_X2_moveFaults 15 [(4, .int (nI (j + 1))), (3, .int (g ||| (if hb f j = true then frX j (t &&& -2) al else 0))), (0, .ref 2), (1, .int f), (2, .int t)] [] S Q) :
    Wp (d + 2) n_X2_moveFaults 15 [(4, .int (nI j)), (3, .int g), (0, .ref 2), (1, .int f), (2, .int t)] [] S Q := by
  iterate 2 refine Wp.p rfl ?_
  refine Wp.b rfl (fun (c : (10 : Int32) ≤ nI j) => absurd c (nI_ge (b := 10) hj (by decide))) (fun _ => ?_)
  iterate 2 refine Wp.p rfl ?_
  refine Wp.i rfl (s_holdsI (by omega) ?_)
  by_cases c : hb f j = true
  · rw [if_pos c, ← nI_1] at h
    rw [bI_t c]
    refine Wp.b rfl (fun (e : (1 : Int32) = 0) => absurd e (by decide)) (fun _ => ?_)
    iterate 6 refine Wp.p rfl ?_
    refine Wp.i rfl (s_O_moveFaultsOf (al := al) h1 h2 hj ?_)
    iterate 4 refine Wp.p rfl ?_
    exact h.sub (lS.mk rfl rfl (by repeat (first | exact lSub.nil | refine lSub.cons rfl ?_)))
  · rw [if_neg c, Int32.or_zero, ← nI_1] at h
    rw [bI_f c]
    refine Wp.b rfl (fun _ => ?_) (fun (e : ¬ (0 : Int32) = 0) => absurd rfl e)
    iterate 2 refine Wp.p rfl ?_
    exact h.sub (lS.mk rfl rfl (by repeat (first | exact lSub.nil | refine lSub.cons rfl ?_)))
theorem s_O_moveFaults {d : Nat} {S : mS} {Q : mQ} {al : Nat → Int32} {f t : Int32} (h1 : al 1 = S.2.2 182 1) (h2 : al 2 = S.2.2 182 2) (h : Q (some (.int (mvX f t al 9))) S) : Ev (d + 2) n_X2_moveFaults [.ref 2, .int f, .int t] S Q := by
  iterate 4 refine Wp.p rfl ?_
  refine Wp.i rfl (s_shareI (x := f ||| t) (y := 1) ?_)
  iterate 1 refine Wp.p rfl ?_
  refine Wp.i rfl (s_faultI (c := 2) (by decide) ?_)
  iterate 3 refine Wp.p rfl ?_
  refine (?_ : Wp (d + 2) n_X2_moveFaults 15 [(4, .int (nI 1)), (3, .int (if sh (f ||| t) 1 then 2 else 0)), (0, .ref 2), (1, .int f), (2, .int t)] [] S Q).sub (lS.mk rfl rfl (by repeat (first | exact lSub.nil | refine lSub.cons rfl ?_)))
  refine s_O_mvf_it (al := al) h1 h2 (by omega) (s_O_mvf_it (al := al) h1 h2 (by omega) (s_O_mvf_it (al := al) h1 h2 (by omega) (s_O_mvf_it (al := al) h1 h2 (by omega) (s_O_mvf_it (al := al) h1 h2 (by omega) (s_O_mvf_it (al := al) h1 h2 (by omega) (s_O_mvf_it (al := al) h1 h2 (by omega) (s_O_mvf_it (al := al) h1 h2 (by omega) (s_O_mvf_it (al := al) h1 h2 (by omega) ?_))))))))
  iterate 2 refine Wp.p rfl ?_
  refine Wp.bT rfl (by decide) ?_
  iterate 1 refine Wp.p rfl ?_
  exact Wp.r rfl trivial h

/-- how a row of the class stands for one of the rules -/
def rwS (S : mS) (s : Nat) (r : Nat → Int32) : Prop := ∀ v, v < 6 → S.2.2 181 (6 * s + v) = r v
theorem s_O_faultsOf_k {d k s : Nat} {S : mS} {Q : mQ} {al r : Nat → Int32} {a b c : Int32} (hs : s < 32) (hw : wS k a b c) (hr : rwS S s r) (h1 : al 1 = S.2.2 182 1) (h2 : al 2 = S.2.2 182 2) (h : Q (some (.int (ftF k a b al r))) S) : Wp (d + 4) n_X2_faultsOf 29 [(3, .int b), (2, .int a), (0, .ref 2), (1, .int (nI s))] [.int (nI k)] S Q := by
  have hk := hw.1
  match k, hk with
  | 0, _ =>
    iterate 2 refine Wp.p rfl ?_
    exact Wp.r rfl trivial h
  | 1, _ =>
    iterate 2 refine Wp.p rfl ?_
    exact Wp.r rfl trivial h
  | 2, _ =>
    iterate 2 refine Wp.p rfl ?_
    exact Wp.r rfl trivial h
  | 3, _ =>
    iterate 2 refine Wp.p rfl ?_
    exact Wp.r rfl trivial h
  | 4, _ =>
    iterate 2 refine Wp.p rfl ?_
    exact Wp.r rfl trivial h
  | 5, _ =>
    iterate 2 refine Wp.p rfl ?_
    exact Wp.r rfl trivial h
  | 6, _ =>
    iterate 4 refine Wp.p rfl ?_
    refine Wp.i rfl (s_O_kindsAt hs (in_of (n := 6) (hw.2.1.1 rfl) (by decide)) ?_)
    rw [hr _ (V6 (in_of (n := 6) (hw.2.1.1 rfl) (by decide)) (by decide)).1]
    iterate 1 refine Wp.p rfl ?_
    refine Wp.i rfl (s_O_castFaults (in_of (n := 11) (hw.2.2.1.2.2.2.2.1 rfl) (by decide)) ?_)
    exact Wp.r rfl trivial h
  | 7, _ =>
    iterate 4 refine Wp.p rfl ?_
    refine Wp.i rfl (s_O_kindsAt hs (in_of (n := 6) (hw.2.2.1.1 rfl) (by decide)) ?_)
    rw [hr _ (V6 (in_of (n := 6) (hw.2.2.1.1 rfl) (by decide)) (by decide)).1]
    iterate 1 refine Wp.p rfl ?_
    refine Wp.i rfl (s_O_useFaults (ty := 1) (by unfold vp_in; decide) ?_)
    exact Wp.r rfl trivial h
  | 8, _ =>
    iterate 4 refine Wp.p rfl ?_
    refine Wp.i rfl (s_O_kindsAt hs (in_of (n := 6) (hw.2.1.1 rfl) (by decide)) ?_)
    rw [hr _ (V6 (in_of (n := 6) (hw.2.1.1 rfl) (by decide)) (by decide)).1]
    iterate 1 refine Wp.p rfl ?_
    refine Wp.i rfl (s_O_useFaults (ty := 1) (by unfold vp_in; decide) ?_)
    exact Wp.r rfl trivial h
  | 9, _ =>
    iterate 4 refine Wp.p rfl ?_
    refine Wp.i rfl (s_O_kindsAt hs (in_of (n := 6) (hw.2.2.1.1 rfl) (by decide)) ?_)
    rw [hr _ (V6 (in_of (n := 6) (hw.2.2.1.1 rfl) (by decide)) (by decide)).1]
    iterate 1 refine Wp.p rfl ?_
    refine Wp.i rfl (s_O_cellFaults (ty := 8) (by unfold vp_in; decide) ?_)
    exact Wp.r rfl trivial h
  | 10, _ =>
    iterate 4 refine Wp.p rfl ?_
    refine Wp.i rfl (s_O_kindsAt hs (in_of (n := 6) (hw.2.1.1 rfl) (by decide)) ?_)
    rw [hr _ (V6 (in_of (n := 6) (hw.2.1.1 rfl) (by decide)) (by decide)).1]
    iterate 3 refine Wp.p rfl ?_
    refine Wp.i rfl (s_O_kindsAt hs (in_of (n := 6) (hw.2.2.1.1 rfl) (by decide)) ?_)
    rw [hr _ (V6 (in_of (n := 6) (hw.2.2.1.1 rfl) (by decide)) (by decide)).1]
    refine Wp.i rfl (s_O_setCellFaults ?_)
    exact Wp.r rfl trivial h
  | 11, _ =>
    iterate 4 refine Wp.p rfl ?_
    refine Wp.i rfl (s_O_kindsAt hs (in_of (n := 6) (hw.2.2.1.1 rfl) (by decide)) ?_)
    rw [hr _ (V6 (in_of (n := 6) (hw.2.2.1.1 rfl) (by decide)) (by decide)).1]
    iterate 1 refine Wp.p rfl ?_
    refine Wp.i rfl (s_O_useFaults (ty := 5) (by unfold vp_in; decide) ?_)
    exact Wp.r rfl trivial h
  | 12, _ =>
    iterate 4 refine Wp.p rfl ?_
    refine Wp.i rfl (s_O_kindsAt hs (in_of (n := 6) (hw.2.2.1.1 rfl) (by decide)) ?_)
    rw [hr _ (V6 (in_of (n := 6) (hw.2.2.1.1 rfl) (by decide)) (by decide)).1]
    iterate 1 refine Wp.p rfl ?_
    refine Wp.i rfl (s_O_useFaults (ty := 5) (by unfold vp_in; decide) ?_)
    exact Wp.r rfl trivial h
  | 13, _ =>
    iterate 4 refine Wp.p rfl ?_
    refine Wp.i rfl (s_O_kindsAt hs (in_of (n := 6) (hw.2.2.1.1 rfl) (by decide)) ?_)
    rw [hr _ (V6 (in_of (n := 6) (hw.2.2.1.1 rfl) (by decide)) (by decide)).1]
    refine Wp.i rfl (s_O_lengthFaults ?_)
    exact Wp.r rfl trivial h
  | 14, _ =>
    iterate 4 refine Wp.p rfl ?_
    refine Wp.i rfl (s_O_kindsAt hs (in_of (n := 6) (hw.2.2.1.1 rfl) (by decide)) ?_)
    rw [hr _ (V6 (in_of (n := 6) (hw.2.2.1.1 rfl) (by decide)) (by decide)).1]
    iterate 1 refine Wp.p rfl ?_
    refine Wp.i rfl (s_O_cellFaults (ty := 6) (by unfold vp_in; decide) ?_)
    exact Wp.r rfl trivial h
  | 15, _ =>
    iterate 4 refine Wp.p rfl ?_
    refine Wp.i rfl (s_O_kindsAt hs (in_of (n := 6) (hw.2.1.1 rfl) (by decide)) ?_)
    rw [hr _ (V6 (in_of (n := 6) (hw.2.1.1 rfl) (by decide)) (by decide)).1]
    iterate 1 refine Wp.p rfl ?_
    refine Wp.i rfl (s_O_cellFaults (ty := 6) (by unfold vp_in; decide) ?_)
    exact Wp.r rfl trivial h
  | 16, _ =>
    iterate 2 refine Wp.p rfl ?_
    exact Wp.r rfl trivial h
  | 17, _ =>
    iterate 2 refine Wp.p rfl ?_
    exact Wp.r rfl trivial h
  | 18, _ =>
    iterate 2 refine Wp.p rfl ?_
    exact Wp.r rfl trivial h
  | 19, _ =>
    iterate 2 refine Wp.p rfl ?_
    exact Wp.r rfl trivial h
  | 20, _ =>
    iterate 2 refine Wp.p rfl ?_
    exact Wp.r rfl trivial h
  | 21, _ =>
    iterate 2 refine Wp.p rfl ?_
    exact Wp.r rfl trivial h
  | 22, _ =>
    iterate 5 refine Wp.p rfl ?_
    refine Wp.i rfl (s_O_kindsAt hs (in_of (n := 6) (hw.2.1.1 rfl) (by decide)) ?_)
    rw [hr _ (V6 (in_of (n := 6) (hw.2.1.1 rfl) (by decide)) (by decide)).1]
    iterate 3 refine Wp.p rfl ?_
    refine Wp.i rfl (s_O_kindsAt hs (in_of (n := 6) (hw.2.2.1.1 rfl) (by decide)) ?_)
    rw [hr _ (V6 (in_of (n := 6) (hw.2.2.1.1 rfl) (by decide)) (by decide)).1]
    refine Wp.i rfl (s_O_moveFaults (al := al) h1 h2 ?_)
    exact Wp.r rfl trivial h
  | 23, _ =>
    iterate 2 refine Wp.p rfl ?_
    exact Wp.r rfl trivial h
  | k + 24, hk => exact absurd hk (by omega)
theorem rwS_tR {S : mS} {s : Nat} : rwS S s (tR (cO S) s) := fun v hv => (if_pos hv).symm
theorem tA_cO {S : mS} {w : Nat} (h : w < 3) : tA (cO S) w = S.2.2 182 w := if_pos h
theorem s_O_faultsOf {d s : Nat} {S : mS} {Q : mQ} {P : oP} (hq : oQ P S) (hs : s < P.1) (h : Q (some (.int (oFt P (cO S) s))) S) : Ev (d + 4) n_X2_faultsOf [.ref 2, .int (nI s)] S Q := by
  obtain ⟨hP, h125, e0, e1, e2, e3, e4⟩ := hq
  have hn := hP.1
  obtain ⟨⟨k, hk, hw⟩, -⟩ := hP.2 s hs
  have hk24 := hw.1
  have tk : tn (P.2.1 s) = k := by rw [hk]; exact tn_nI (by omega)
  have ts : tn (nI s) = s := tn_nI (by omega)
  have is : vp_in (nI s) 32 := vp_in_nI (N := 32) (by omega) (by omega)
  iterate 4 refine Wp.p rfl ?_
  refine Wp.g rfl is ?_
  iterate 5 refine Wp.p rfl ?_
  refine Wp.g rfl is ?_
  iterate 5 refine Wp.p rfl ?_
  refine Wp.g rfl is ?_
  show Wp (d + 4) n_X2_faultsOf 29 [(3, .int (S.2.2 222 (tn (nI s)))), (2, .int (S.2.2 221 (tn (nI s)))), (0, .ref 2), (1, .int (nI s))] [.int (S.2.2 220 (tn (nI s)))] S Q
  rw [ts, e0, e1, e2, hk]
  unfold oFt at h
  rw [tk] at h
  exact s_O_faultsOf_k (by omega) hw rwS_tR (tA_cO (by decide)) (tA_cO (by decide)) h
