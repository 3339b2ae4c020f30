theorem srA_V : ∀ k, k < 24 → srA.getD k 0 = 1 → (m_chs.getD 0 []).getD k 0 = 86 := by decide
theorem srB_V : ∀ k, k < 24 → srB.getD k 0 = 1 → (m_chs.getD 1 []).getD k 0 = 86 := by decide
theorem rwM_tR {S : mS} {s : Nat} : ∀ v, v < 6 → S.2.2 366 (6 * s + v) = tR (mO S) s v := fun v hv => (if_pos hv).symm
theorem tA_mO {S : mS} {w : Nat} (h : w < 3) : tA (mO S) w = S.2.2 368 w := if_pos h
def xA (k : Nat) (r : Nat → Int32) (a : Int32) : Int32 := if srA.getD k 0 = 1 then r (tn a) else 0
def xB (k : Nat) (r : Nat → Int32) (b : Int32) : Int32 := if srB.getD k 0 = 1 then r (tn b) else 0
theorem and_994 {m : Int32} (h : le m 1023) : m &&& ((992 ||| 1) ^^^ -1) = m &&& 30 := by
  rw [← le_and.mp h, Int32.and_assoc, Int32.and_assoc]
  rfl
theorem lenF_eq {m : Int32} (h : le m 1023) : useF m 992 = lenF m := by
  unfold useF castF lenF
  have e : (if sh m ((992 ||| 1) ^^^ -1) then (4 : Int32) else 0) = if sh m 30 then 4 else 0 := by
    have : sh m ((992 ||| 1) ^^^ -1) ↔ sh m 30 := by unfold sh; rw [and_994 h]
    by_cases c : sh m 30
    · rw [if_pos c, if_pos (this.mpr c)]
    · rw [if_neg c, if_neg (fun z => c (this.mp z))]
  rw [e]
  exact Int32.or_comm _ _
theorem ite_bif {p : Prop} [Decidable p] {x : Int32} : (if p then x else 0) = bif decide p then x else 0 := by
  by_cases c : p
  · rw [if_pos c, decide_eq_true c]; rfl
  · rw [if_neg c, decide_eq_false c]; rfl
theorem setF_b : ∀ A B C D E F G : Bool, (G = true → D = true) → ((((bif A || B then (4 : Int32) else 0) ||| (bif C && D then 2 else 0)) ||| (bif E && D then 8 else 0)) ||| (bif F && G then 16 else 0)) = (bif D then ((bif A then (4 : Int32) else 0) ||| (bif B then 4 else 0)) ||| (((bif A then 4 else 0) ||| (bif C then 2 else 0)) ||| (bif E then 8 else 0)) ||| (bif F && G then 16 else 0) else ((bif A then 4 else 0) ||| (bif B then 4 else 0))) := by decide
theorem setF_eq {x y : Int32} : (((if sh x (-386) ∨ sh y (-32) then (4 : Int32) else 0) ||| (if sh x 1 ∧ sh y 31 then 2 else 0)) ||| (if sh x 384 ∧ sh y 31 then 8 else 0)) ||| (if sh x 256 ∧ sh y 6 then 16 else 0) = setF x y := by
  have g : decide (sh y 6) = true → decide (sh y 31) = true := fun z => decide_eq_true (le.sh le.rf (le_c (by decide)) (of_decide_eq_true z))
  have := setF_b (decide (sh x (-386))) (decide (sh y (-32))) (decide (sh x 1)) (decide (sh y 31)) (decide (sh x 384)) (decide (sh x 256)) (decide (sh y 6)) g
  unfold setF cellF castF
  have e1 : (if sh x (-386) ∨ sh y (-32) then (4 : Int32) else 0) = bif decide (sh x (-386)) || decide (sh y (-32)) then 4 else 0 := by rw [← Bool.decide_or]; exact ite_bif
  have e2 : (if sh x 1 ∧ sh y 31 then (2 : Int32) else 0) = bif decide (sh x 1) && decide (sh y 31) then 2 else 0 := by rw [← Bool.decide_and]; exact ite_bif
  have e3 : (if sh x 384 ∧ sh y 31 then (8 : Int32) else 0) = bif decide (sh x 384) && decide (sh y 31) then 8 else 0 := by rw [← Bool.decide_and]; exact ite_bif
  have e4 : (if sh x 256 ∧ sh y 6 then (16 : Int32) else 0) = bif decide (sh x 256) && decide (sh y 6) then 16 else 0 := by rw [← Bool.decide_and]; exact ite_bif
  rw [e1, e2, e3, e4, this]
  by_cases c : y &&& 31 = 0
  · rw [if_pos c, decide_eq_false (fun z : sh y 31 => z c)]
    rw [show (if sh x ((384 ||| 1) ^^^ -1) then (4 : Int32) else 0) = bif decide (sh x (-386)) then 4 else 0 from ite_bif, show (if sh y ((30 ||| 1) ^^^ -1) then (4 : Int32) else 0) = bif decide (sh y (-32)) then 4 else 0 from ite_bif]
    rfl
  · rw [if_neg c, decide_eq_true (show sh y 31 from c)]
    rw [show (if sh x ((384 ||| 1) ^^^ -1) then (4 : Int32) else 0) = bif decide (sh x (-386)) then 4 else 0 from ite_bif, show (if sh y ((30 ||| 1) ^^^ -1) then (4 : Int32) else 0) = bif decide (sh y (-32)) then 4 else 0 from ite_bif, ite_bif (p := sh x 1), ite_bif (p := sh x 384)]
    rfl
/-- the faults at a step of the model, from its locals -/
theorem s_m_faultsOf_k {d k s : Nat} {S : mS} {Q : mQ} {al r : Nat → Int32} {a b c : Int32} (hs : s < 32) (hw : wS k a b c) (hrg : ∀ v, le (r v) 1023) (h1 : al 1 = S.2.2 368 1) (h2 : al 2 = S.2.2 368 2) (l1 : le (al 1) 31) (l2 : le (al 2) 25) (h : Q (some (.int (ftF k a b al r))) S) : Wp (d + 2) n_X6_faultsOf 80 [(5, .int (xB k r b)), (4, .int (xA k r a)), (3, .int b), (2, .int a), (0, .ref 6), (1, .int (nI s))] [.int (nI k)] S Q := by
  have hk := hw.1
  match k, hk with
  | 0, _ =>
    iterate 2 refine Wp.p rfl ?_
    exact Wp.r rfl trivial h
  | 1, _ =>
    iterate 2 refine Wp.p rfl ?_
    exact Wp.r rfl trivial h
  | 2, _ =>
    iterate 2 refine Wp.p rfl ?_
    exact Wp.r rfl trivial h
  | 3, _ =>
    iterate 2 refine Wp.p rfl ?_
    exact Wp.r rfl trivial h
  | 4, _ =>
    iterate 2 refine Wp.p rfl ?_
    exact Wp.r rfl trivial h
  | 5, _ =>
    iterate 2 refine Wp.p rfl ?_
    exact Wp.r rfl trivial h
  | 6, _ =>
    have h : Q (some (.int (if sh (r (tn a)) ((m_sv 500 (tn b) ||| 1) ^^^ -1) then 4 else 0))) S := h
    iterate 3 refine Wp.p rfl ?_
    refine Wp.i rfl (s_m_bitsOf (in_of (n := 11) (hw.2.2.1.2.2.2.2.1 rfl) (by decide)) ?_)
    iterate 5 refine Wp.p rfl ?_
    refine Wp.b rfl (fun (c : r (tn a) &&& ((m_sv 500 (tn b) ||| 1) ^^^ -1) = 0) => ?_) (fun (c : ¬ r (tn a) &&& ((m_sv 500 (tn b) ||| 1) ^^^ -1) = 0) => ?_)
    · rw [if_neg (fun z => z c)] at h
      iterate 1 refine Wp.p rfl ?_
      exact Wp.r rfl trivial h
    · rw [if_pos c] at h
      iterate 2 refine Wp.p rfl ?_
      exact Wp.r rfl trivial h
  | 7, _ =>
    iterate 3 refine Wp.p rfl ?_
    refine Wp.i rfl (s_m_casts (m := r (tn b)) (K := 30) ?_)
    exact Wp.r rfl trivial h
  | 8, _ =>
    iterate 3 refine Wp.p rfl ?_
    refine Wp.i rfl (s_m_casts (m := r (tn a)) (K := 30) ?_)
    exact Wp.r rfl trivial h
  | 9, _ =>
    have h : Q (some (.int (useF (r (tn b)) 384 ||| (if sh (r (tn b)) 384 then 8 else 0)))) S := h
    iterate 3 refine Wp.p rfl ?_
    refine Wp.i rfl (s_m_casts (m := r (tn b)) (K := 384) ?_)
    iterate 3 refine Wp.p rfl ?_
    refine Wp.b rfl (fun (c : r (tn b) &&& 384 = 0) => ?_) (fun (c : ¬ r (tn b) &&& 384 = 0) => ?_)
    · rw [if_neg (fun z => z c)] at h
      iterate 2 refine Wp.p rfl ?_
      exact Wp.r rfl trivial h
    · rw [if_pos c] at h
      iterate 3 refine Wp.p rfl ?_
      exact Wp.r rfl trivial h
  | 10, _ =>
    have h : Q (some (.int (setF (r (tn a)) (r (tn b))))) S := h
    rw [← setF_eq] at h
    have L : mL := [(0, .ref 6), (1, .int (nI s))]
    have k355 : ∀ g z : Int32, g = (((if sh (r (tn a)) (-386) ∨ sh (r (tn b)) (-32) then (4 : Int32) else 0) ||| (if sh (r (tn a)) 1 ∧ sh (r (tn b)) 31 then 2 else 0)) ||| (if sh (r (tn a)) 384 ∧ sh (r (tn b)) 31 then 8 else 0)) → z = (if sh (r (tn a)) 256 ∧ sh (r (tn b)) 6 then 16 else 0) → Wp (d + 2) n_X6_faultsOf 355 [(5, .int (r (tn b))), (4, .int (r (tn a))), (0, .ref 6), (1, .int (nI s))] [.int z, .int g] S Q := fun g z hg hz => by
      rw [← hg, ← hz] at h
      iterate 1 refine Wp.p rfl ?_
      exact Wp.r rfl trivial h
    have k330 : ∀ g : Int32, g = (((if sh (r (tn a)) (-386) ∨ sh (r (tn b)) (-32) then (4 : Int32) else 0) ||| (if sh (r (tn a)) 1 ∧ sh (r (tn b)) 31 then 2 else 0)) ||| (if sh (r (tn a)) 384 ∧ sh (r (tn b)) 31 then 8 else 0)) → Wp (d + 2) n_X6_faultsOf 330 [(6, .int g), (5, .int (r (tn b))), (4, .int (r (tn a))), (0, .ref 6), (1, .int (nI s))] [] S Q := fun g hg => by
      iterate 4 refine Wp.p rfl ?_
      refine Wp.b rfl (fun (c : r (tn a) &&& 256 = 0) => ?_) (fun (c : ¬ r (tn a) &&& 256 = 0) => ?_)
      · iterate 1 refine Wp.p rfl ?_
        exact (k355 g 0 hg (if_neg (fun z => z.1 c)).symm).sub (lS.mk rfl rfl (by repeat (first | exact lSub.nil | refine lSub.cons rfl ?_)))
      · iterate 3 refine Wp.p rfl ?_
        refine Wp.b rfl (fun (c2 : r (tn b) &&& 6 = 0) => ?_) (fun (c2 : ¬ r (tn b) &&& 6 = 0) => ?_)
        · iterate 1 refine Wp.p rfl ?_
          exact (k355 g 0 hg (if_neg (fun z => z.2 c2)).symm).sub (lS.mk rfl rfl (by repeat (first | exact lSub.nil | refine lSub.cons rfl ?_)))
        · iterate 2 refine Wp.p rfl ?_
          exact (k355 g 16 hg (if_pos ⟨c, c2⟩).symm).sub (lS.mk rfl rfl (by repeat (first | exact lSub.nil | refine lSub.cons rfl ?_)))
    have k327 : ∀ g z : Int32, g = ((if sh (r (tn a)) (-386) ∨ sh (r (tn b)) (-32) then (4 : Int32) else 0) ||| (if sh (r (tn a)) 1 ∧ sh (r (tn b)) 31 then 2 else 0)) → z = (if sh (r (tn a)) 384 ∧ sh (r (tn b)) 31 then 8 else 0) → Wp (d + 2) n_X6_faultsOf 327 [(5, .int (r (tn b))), (4, .int (r (tn a))), (0, .ref 6), (1, .int (nI s))] [.int z, .int g] S Q := fun g z hg hz => by
      iterate 2 refine Wp.p rfl ?_
      exact (k330 (g ||| z) (by rw [hg, hz])).sub (lS.mk rfl rfl (by repeat (first | exact lSub.nil | refine lSub.cons rfl ?_)))
    have k302 : ∀ g : Int32, g = ((if sh (r (tn a)) (-386) ∨ sh (r (tn b)) (-32) then (4 : Int32) else 0) ||| (if sh (r (tn a)) 1 ∧ sh (r (tn b)) 31 then 2 else 0)) → Wp (d + 2) n_X6_faultsOf 302 [(6, .int g), (5, .int (r (tn b))), (4, .int (r (tn a))), (0, .ref 6), (1, .int (nI s))] [] S Q := fun g hg => by
      iterate 4 refine Wp.p rfl ?_
      refine Wp.b rfl (fun (c : r (tn a) &&& 384 = 0) => ?_) (fun (c : ¬ r (tn a) &&& 384 = 0) => ?_)
      · iterate 1 refine Wp.p rfl ?_
        exact (k327 g 0 hg (if_neg (fun z => z.1 c)).symm).sub (lS.mk rfl rfl (by repeat (first | exact lSub.nil | refine lSub.cons rfl ?_)))
      · iterate 3 refine Wp.p rfl ?_
        refine Wp.b rfl (fun (c2 : r (tn b) &&& 31 = 0) => ?_) (fun (c2 : ¬ r (tn b) &&& 31 = 0) => ?_)
        · iterate 1 refine Wp.p rfl ?_
          exact (k327 g 0 hg (if_neg (fun z => z.2 c2)).symm).sub (lS.mk rfl rfl (by repeat (first | exact lSub.nil | refine lSub.cons rfl ?_)))
        · iterate 2 refine Wp.p rfl ?_
          exact (k327 g 8 hg (if_pos ⟨c, c2⟩).symm).sub (lS.mk rfl rfl (by repeat (first | exact lSub.nil | refine lSub.cons rfl ?_)))
    have k299 : ∀ g z : Int32, g = (if sh (r (tn a)) (-386) ∨ sh (r (tn b)) (-32) then (4 : Int32) else 0) → z = (if sh (r (tn a)) 1 ∧ sh (r (tn b)) 31 then 2 else 0) → Wp (d + 2) n_X6_faultsOf 299 [(5, .int (r (tn b))), (4, .int (r (tn a))), (0, .ref 6), (1, .int (nI s))] [.int z, .int g] S Q := fun g z hg hz => by
      iterate 2 refine Wp.p rfl ?_
      exact (k302 (g ||| z) (by rw [hg, hz])).sub (lS.mk rfl rfl (by repeat (first | exact lSub.nil | refine lSub.cons rfl ?_)))
    have k275 : ∀ g : Int32, g = (if sh (r (tn a)) (-386) ∨ sh (r (tn b)) (-32) then (4 : Int32) else 0) → Wp (d + 2) n_X6_faultsOf 275 [(5, .int (r (tn b))), (4, .int (r (tn a))), (0, .ref 6), (1, .int (nI s))] [.int g] S Q := fun g hg => by
      iterate 5 refine Wp.p rfl ?_
      refine Wp.b rfl (fun (c : r (tn a) &&& 1 = 0) => ?_) (fun (c : ¬ r (tn a) &&& 1 = 0) => ?_)
      · iterate 1 refine Wp.p rfl ?_
        exact (k299 g 0 hg (if_neg (fun z => z.1 c)).symm).sub (lS.mk rfl rfl (by repeat (first | exact lSub.nil | refine lSub.cons rfl ?_)))
      · iterate 3 refine Wp.p rfl ?_
        refine Wp.b rfl (fun (c2 : r (tn b) &&& 31 = 0) => ?_) (fun (c2 : ¬ r (tn b) &&& 31 = 0) => ?_)
        · iterate 1 refine Wp.p rfl ?_
          exact (k299 g 0 hg (if_neg (fun z => z.2 c2)).symm).sub (lS.mk rfl rfl (by repeat (first | exact lSub.nil | refine lSub.cons rfl ?_)))
        · iterate 2 refine Wp.p rfl ?_
          exact (k299 g 2 hg (if_pos ⟨c, c2⟩).symm).sub (lS.mk rfl rfl (by repeat (first | exact lSub.nil | refine lSub.cons rfl ?_)))
    iterate 4 refine Wp.p rfl ?_
    refine Wp.b rfl (fun (c : ¬ r (tn a) &&& -386 = 0) => ?_) (fun (c : ¬ ¬ r (tn a) &&& -386 = 0) => ?_)
    · iterate 2 refine Wp.p rfl ?_
      exact (k275 4 (if_pos (Or.inl c)).symm).sub (lS.mk rfl rfl (by repeat (first | exact lSub.nil | refine lSub.cons rfl ?_)))
    · iterate 3 refine Wp.p rfl ?_
      refine Wp.b rfl (fun (c2 : r (tn b) &&& -32 = 0) => ?_) (fun (c2 : ¬ r (tn b) &&& -32 = 0) => ?_)
      · iterate 1 refine Wp.p rfl ?_
        exact (k275 0 (if_neg (fun z => z.elim c (fun y => y c2))).symm).sub (lS.mk rfl rfl (by repeat (first | exact lSub.nil | refine lSub.cons rfl ?_)))
      · iterate 2 refine Wp.p rfl ?_
        exact (k275 4 (if_pos (Or.inr c2)).symm).sub (lS.mk rfl rfl (by repeat (first | exact lSub.nil | refine lSub.cons rfl ?_)))
  | 11, _ =>
    iterate 3 refine Wp.p rfl ?_
    refine Wp.i rfl (s_m_casts (m := r (tn b)) (K := 20) ?_)
    exact Wp.r rfl trivial h
  | 12, _ =>
    iterate 3 refine Wp.p rfl ?_
    refine Wp.i rfl (s_m_casts (m := r (tn b)) (K := 20) ?_)
    exact Wp.r rfl trivial h
  | 13, _ =>
    have h : Q (some (.int (lenF (r (tn b))))) S := h
    rw [← lenF_eq (hrg _)] at h
    iterate 3 refine Wp.p rfl ?_
    refine Wp.i rfl (s_m_casts (m := r (tn b)) (K := 992) ?_)
    exact Wp.r rfl trivial h
  | 14, _ =>
    have h : Q (some (.int (useF (r (tn b)) 32 ||| (if sh (r (tn b)) 32 then 8 else 0)))) S := h
    iterate 3 refine Wp.p rfl ?_
    refine Wp.i rfl (s_m_casts (m := r (tn b)) (K := 32) ?_)
    iterate 3 refine Wp.p rfl ?_
    refine Wp.b rfl (fun (c : r (tn b) &&& 32 = 0) => ?_) (fun (c : ¬ r (tn b) &&& 32 = 0) => ?_)
    · rw [if_neg (fun z => z c)] at h
      iterate 2 refine Wp.p rfl ?_
      exact Wp.r rfl trivial h
    · rw [if_pos c] at h
      iterate 3 refine Wp.p rfl ?_
      exact Wp.r rfl trivial h
  | 15, _ =>
    have h : Q (some (.int (useF (r (tn a)) 32 ||| (if sh (r (tn a)) 32 then 8 else 0)))) S := h
    iterate 3 refine Wp.p rfl ?_
    refine Wp.i rfl (s_m_casts (m := r (tn a)) (K := 32) ?_)
    iterate 3 refine Wp.p rfl ?_
    refine Wp.b rfl (fun (c : r (tn a) &&& 32 = 0) => ?_) (fun (c : ¬ r (tn a) &&& 32 = 0) => ?_)
    · rw [if_neg (fun z => z c)] at h
      iterate 2 refine Wp.p rfl ?_
      exact Wp.r rfl trivial h
    · rw [if_pos c] at h
      iterate 3 refine Wp.p rfl ?_
      exact Wp.r rfl trivial h
  | 16, _ =>
    iterate 2 refine Wp.p rfl ?_
    exact Wp.r rfl trivial h
  | 17, _ =>
    iterate 2 refine Wp.p rfl ?_
    exact Wp.r rfl trivial h
  | 18, _ =>
    iterate 2 refine Wp.p rfl ?_
    exact Wp.r rfl trivial h
  | 19, _ =>
    iterate 2 refine Wp.p rfl ?_
    exact Wp.r rfl trivial h
  | 20, _ =>
    iterate 2 refine Wp.p rfl ?_
    exact Wp.r rfl trivial h
  | 21, _ =>
    iterate 2 refine Wp.p rfl ?_
    exact Wp.r rfl trivial h
  | 22, _ =>
    iterate 4 refine Wp.p rfl ?_
    refine Wp.i rfl (s_m_copyFaults (al := al) h1 h2 (hrg _) l1 l2 ?_)
    exact Wp.r rfl trivial h
  | 23, _ =>
    iterate 2 refine Wp.p rfl ?_
    exact Wp.r rfl trivial h
  | k + 24, hk => exact absurd hk (by omega)
theorem s_m_faultsOf {d s : Nat} {S : mS} {Q : mQ} {P : oP} (hq : oQm P S) (hbl : Bel P (mO S)) (hs : s < P.1) (h : Q (some (.int (oFt P (mO S) s))) S) : Ev (d + 2) n_X6_faultsOf [.ref 6, .int (nI s)] S Q := by
  obtain ⟨hP, h241, e0, e1, e2, e3, e4⟩ := hq
  have hn := hP.1
  obtain ⟨⟨k, hk, hw⟩, -⟩ := hP.2 s hs
  have hk24 := hw.1
  have tk : tn (P.2.1 s) = k := by rw [hk]; exact tn_nI (by omega)
  have ts : tn (nI s) = s := tn_nI (by omega)
  have is : vp_in (nI s) 32 := vp_in_nI (N := 32) (by omega) (by omega)
  obtain ⟨r1, r2, r3, r4⟩ := hbl.rg hP
  unfold oFt at h
  rw [tk] at h
  have k72 : ∀ z : Int32, z = xB k (tR (mO S) s) (P.2.2.2.1 s) → Wp (d + 2) n_X6_faultsOf 72 [(4, .int (xA k (tR (mO S) s) (P.2.2.1 s))), (3, .int (P.2.2.2.1 s)), (2, .int (P.2.2.1 s)), (0, .ref 6), (1, .int (nI s))] [.int z] S Q := fun z hz => by
    rw [hz]
    iterate 4 refine Wp.p rfl ?_
    refine Wp.g rfl is ?_
    refine (?_ : Wp (d + 2) n_X6_faultsOf 80 [(5, .int (xB k (tR (mO S) s) (P.2.2.2.1 s))), (4, .int (xA k (tR (mO S) s) (P.2.2.1 s))), (3, .int (P.2.2.2.1 s)), (2, .int (P.2.2.1 s)), (0, .ref 6), (1, .int (nI s))] [.int (S.2.2 342 (tn (nI s)))] S Q)
    rw [ts, e0, hk]
    exact s_m_faultsOf_k (by omega) hw (tR_rg r1 (by omega)) (tA_mO (by decide)) (tA_mO (by decide)) (by rw [tA_mO (by decide)]; exact r3) (by rw [tA_mO (by decide)]; exact r4) h
  have k42 : ∀ z : Int32, z = xA k (tR (mO S) s) (P.2.2.1 s) → Wp (d + 2) n_X6_faultsOf 42 [(3, .int (P.2.2.2.1 s)), (2, .int (P.2.2.1 s)), (0, .ref 6), (1, .int (nI s))] [.int z] S Q := fun z hz => by
    rw [hz]
    iterate 4 refine Wp.p rfl ?_
    refine Wp.g rfl is ?_
    refine (?_ : Wp (d + 2) n_X6_faultsOf 50 [(4, .int (xA k (tR (mO S) s) (P.2.2.1 s))), (3, .int (P.2.2.2.1 s)), (2, .int (P.2.2.1 s)), (0, .ref 6), (1, .int (nI s))] [.int (S.2.2 342 (tn (nI s)))] S Q)
    rw [ts, e0, hk]
    refine Wp.i rfl (s_m_sortB k hk24 ?_)
    iterate 1 refine Wp.p rfl ?_
    refine Wp.b rfl (fun (c : ¬ srB.getD k 0 = 1) => ?_) (fun (c : ¬ ¬ srB.getD k 0 = 1) => ?_)
    · iterate 1 refine Wp.p rfl ?_
      exact k72 0 (if_neg c).symm
    · have c1 := Decidable.not_not.mp c
      have vb : vp_in (P.2.2.2.1 s) 6 := in_of (n := 6) (hw.2.2.1.1 (srB_V k hk24 c1)) (by decide)
      obtain ⟨lb, eb⟩ := V6 vb (by decide)
      iterate 7 refine Wp.p rfl ?_
      refine (?_ : Wp (d + 2) n_X6_faultsOf 67 [(4, .int (xA k (tR (mO S) s) (P.2.2.1 s))), (3, .int (P.2.2.2.1 s)), (2, .int (P.2.2.1 s)), (0, .ref 6), (1, .int (nI s))] [.int (6 * nI s + P.2.2.2.1 s), .ref 366] S Q)
      have e6 : 6 * nI s + P.2.2.2.1 s = nI (6 * s + tn (P.2.2.2.1 s)) := by
        have := ix6 s (tn (P.2.2.2.1 s))
        rw [← eb] at this
        exact this
      rw [e6]
      refine Wp.g rfl (vp_in_nI (N := 192) (by omega) (by omega)) ?_
      iterate 1 refine Wp.p rfl ?_
      refine k72 _ ?_
      show S.2.2 366 (tn (nI (6 * s + tn (P.2.2.2.1 s)))) = xB k (tR (mO S) s) (P.2.2.2.1 s)
      rw [tn_nI (by omega), rwM_tR _ lb]
      exact (if_pos c1).symm
  iterate 3 refine Wp.p rfl ?_
  refine Wp.g rfl is ?_
  iterate 4 refine Wp.p rfl ?_
  refine Wp.g rfl is ?_
  iterate 4 refine Wp.p rfl ?_
  refine Wp.g rfl is ?_
  refine (?_ : Wp (d + 2) n_X6_faultsOf 20 [(3, .int (S.2.2 344 (tn (nI s)))), (2, .int (S.2.2 343 (tn (nI s)))), (0, .ref 6), (1, .int (nI s))] [.int (S.2.2 342 (tn (nI s)))] S Q)
  rw [ts, e0, e1, e2, hk]
  refine Wp.i rfl (s_m_sortA k hk24 ?_)
  iterate 1 refine Wp.p rfl ?_
  refine Wp.b rfl (fun (c : ¬ srA.getD k 0 = 1) => ?_) (fun (c : ¬ ¬ srA.getD k 0 = 1) => ?_)
  · iterate 1 refine Wp.p rfl ?_
    exact k42 0 (if_neg c).symm
  · have c1 := Decidable.not_not.mp c
    have va : vp_in (P.2.2.1 s) 6 := in_of (n := 6) (hw.2.1.1 (srA_V k hk24 c1)) (by decide)
    obtain ⟨la, ea⟩ := V6 va (by decide)
    iterate 7 refine Wp.p rfl ?_
    refine (?_ : Wp (d + 2) n_X6_faultsOf 37 [(3, .int (P.2.2.2.1 s)), (2, .int (P.2.2.1 s)), (0, .ref 6), (1, .int (nI s))] [.int (6 * nI s + P.2.2.1 s), .ref 366] S Q)
    have e6 : 6 * nI s + P.2.2.1 s = nI (6 * s + tn (P.2.2.1 s)) := by
      have := ix6 s (tn (P.2.2.1 s))
      rw [← ea] at this
      exact this
    rw [e6]
    refine Wp.g rfl (vp_in_nI (N := 192) (by omega) (by omega)) ?_
    iterate 1 refine Wp.p rfl ?_
    refine k42 _ ?_
    show S.2.2 366 (tn (nI (6 * s + tn (P.2.2.1 s)))) = xA k (tR (mO S) s) (P.2.2.1 s)
    rw [tn_nI (by omega), rwM_tR _ la]
    exact (if_pos c1).symm
