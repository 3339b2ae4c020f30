/-- what the model has so far -/
def mO (S : mS) : oT := (S.2.2 366, S.2.2 368, fun s => !decide (S.2.2 367 s = 0))
theorem mO_c {S : mS} {s : Nat} : (mO S).2.2 s = true ↔ ¬ S.2.2 367 s = 0 := by
  show (!decide (S.2.2 367 s = 0)) = true ↔ _
  by_cases e : S.2.2 367 s = 0
  · rw [decide_eq_true e]; exact ⟨fun z => absurd z (by decide), fun z => absurd e z⟩
  · rw [decide_eq_false e]; exact ⟨fun _ => e, fun _ => rfl⟩
def oQm (P : oP) (S : mS) : Prop := oPW P ∧ S.1 241 = nI P.1 ∧ S.2.2 342 = P.2.1 ∧ S.2.2 343 = P.2.2.1 ∧ S.2.2 344 = P.2.2.2.1 ∧ S.2.2 345 = P.2.2.2.2.1 ∧ S.2.2 346 = P.2.2.2.2.2
def MI (P : oP) (S : mS) : Prop := oQm P S ∧ Bel P (mO S) ∧ ∀ s, s < 32 → (mO S).2.2 s = true → s < P.1 ∧ ∀ v, v < 6 → ¬ S.2.2 366 (6 * s + v) = 0
def mSame (S S' : mS) : Prop := (∀ q, q < 192 → S'.2.2 366 q = S.2.2 366 q) ∧ (∀ w, w < 3 → S'.2.2 368 w = S.2.2 368 w) ∧ ∀ s, s < 32 → (mO S').2.2 s = true → (mO S).2.2 s = true
def mGt (T T' : oT) : Prop := oGt T T' ∨ ∃ s, s < 32 ∧ T'.2.2 s = true ∧ ¬ T.2.2 s = true
/-- the sets grow; nothing new, then nothing changed -/
def Gm (S S' : mS) : Prop := Fr [269] [366, 367, 368, 370] S S' ∧ oLe (mO S) (mO S') ∧ (S'.1 269 = 0 → S.1 269 = 0 ∧ mSame S S') ∧ (¬ S'.1 269 = 0 → ¬ S.1 269 = 0 ∨ mGt (mO S) (mO S'))
theorem mSame.tr {S S' S'' : mS} (h : mSame S S') (g : mSame S' S'') : mSame S S'' := ⟨fun q hq => (g.1 q hq).trans (h.1 q hq), fun w hw => (g.2.1 w hw).trans (h.2.1 w hw), fun s hs e => h.2.2 s hs (g.2.2 s hs e)⟩
theorem mGt.l {T U V : oT} (h : mGt T U) (h2 : oLe U V) : mGt T V := by
  rcases h with h | ⟨s, hs, a, b⟩
  · exact Or.inl (h.l h2)
  · exact Or.inr ⟨s, hs, h2.2.2 s hs a, b⟩
theorem mGt.r {T U V : oT} (h : oLe T U) (h2 : mGt U V) : mGt T V := by
  rcases h2 with h2 | ⟨s, hs, a, b⟩
  · exact Or.inl (oGt.r h h2)
  · exact Or.inr ⟨s, hs, a, fun z => b (h.2.2 s hs z)⟩
theorem Gm.tr {S S' S'' : mS} (h : Gm S S') (g : Gm S' S'') : Gm S S'' := by
  refine ⟨h.1.tr g.1, h.2.1.tr g.2.1, fun e => ?_, fun e => ?_⟩
  · obtain ⟨a, b⟩ := g.2.2.1 e
    obtain ⟨c, d⟩ := h.2.2.1 a
    exact ⟨c, d.tr b⟩
  · rcases g.2.2.2 e with z | z
    · rcases h.2.2.2 z with y | y
      · exact Or.inl y
      · exact Or.inr (y.l g.2.1)
    · exact Or.inr (mGt.r h.2.1 z)
theorem mO_af {S S' : mS} (h : Fr [] [370] S S') : mO S' = mO S := by
  have a1 : S'.2.2 366 = S.2.2 366 := h.2.2 _ (by decide)
  have a2 : S'.2.2 368 = S.2.2 368 := h.2.2 _ (by decide)
  have a3 : S'.2.2 367 = S.2.2 367 := h.2.2 _ (by decide)
  unfold mO
  rw [a1, a2, a3]
theorem Gm.af {S S' : mS} (h : Fr [] [370] S S') : Gm S S' := by
  have f : ∀ q, S'.1 q = S.1 q := fun q => h.1 q List.not_mem_nil
  have a1 : S'.2.2 366 = S.2.2 366 := h.2.2 _ (by decide)
  have a2 : S'.2.2 368 = S.2.2 368 := h.2.2 _ (by decide)
  have e := mO_af h
  refine ⟨h.up (fun q hq => by cases hq) (by decide), by rw [e]; exact oLe.rf, fun z => ⟨by rw [f] at z; exact z, fun q _ => by rw [a1], fun w _ => by rw [a2], fun s _ y => by rw [e] at y; exact y⟩, fun z => Or.inl (by rw [f] at z; exact z)⟩
theorem oQm.fr {P : oP} {S S' : mS} {fs as : List Nat} (h : oQm P S) (g : Fr fs as S S') (h1 : 241 ∉ fs) (h2 : ∀ a, a ∈ [342, 343, 344, 345, 346] → a ∉ as) : oQm P S' := by
  obtain ⟨a, b, c0, c1, c2, c3, c4⟩ := h
  exact ⟨a, by rw [g.1 _ h1]; exact b, by rw [g.2.2 _ (h2 342 (by decide))]; exact c0, by rw [g.2.2 _ (h2 343 (by decide))]; exact c1, by rw [g.2.2 _ (h2 344 (by decide))]; exact c2, by rw [g.2.2 _ (h2 345 (by decide))]; exact c3, by rw [g.2.2 _ (h2 346 (by decide))]; exact c4⟩
theorem MI.af {P : oP} {S S' : mS} (c : MI P S) (h : Fr [] [370] S S') : MI P S' := by
  have a1 : S'.2.2 366 = S.2.2 366 := h.2.2 _ (by decide)
  have e := mO_af h
  obtain ⟨c1, c2, c3⟩ := c
  refine ⟨c1.fr h List.not_mem_nil (by decide), by rw [e]; exact c2, ?_⟩
  rw [e, a1]
  exact c3
theorem s_m_takes_it {d s j : Nat} {S : mS} {Q : mQ} (hs : s < 32) (hj : j < 6) (h : Wp d n_X6_takes 2 [(2, .int (nI (j + 1))), (0, .ref 6), (1, .int (nI s))] [] (sA S 370 j (S.2.2 366 (6 * s + j))) Q) : Wp d n_X6_takes 2 [(2, .int (nI j)), (0, .ref 6), (1, .int (nI s))] [] S Q := by
  have tj : tn (nI j) = j := tn_nI (by omega)
  have tq : tn (nI (6 * s + j)) = 6 * s + j := tn_nI (by omega)
  have hv : vp_in (nI j) 6 := vp_in_nI (N := 6) hj (by omega)
  have hq : vp_in (nI (6 * s + j)) 192 := vp_in_nI (N := 192) (by omega) (by omega)
  iterate 2 refine Wp.p rfl ?_
  refine Wp.b rfl (fun (c : (6 : Int32) ≤ nI j) => absurd c (nI_ge (b := 6) hj (by decide))) (fun _ => ?_)
  iterate 10 refine Wp.p rfl ?_
  refine (?_ : Wp d n_X6_takes 23 [(2, .int (nI j)), (0, .ref 6), (1, .int (nI s))] [.int (6 * nI s + nI j), .ref 366, .int (nI j), .ref 370] S Q)
  rw [ix6]
  refine Wp.g rfl hq ?_
  refine Wp.g rfl hv ?_
  iterate 2 refine Wp.p rfl ?_
  rw [← nI_1] at h
  refine Wp.sub (ls := [(2, .int (nI j + 1)), (0, .ref 6), (1, .int (nI s))]) ?_ (lS.mk rfl rfl (by repeat (first | exact lSub.nil | refine lSub.cons rfl ?_)))
  show Wp d n_X6_takes 2 _ [] (sA S 370 (tn (nI j)) (S.2.2 366 (tn (nI (6 * s + j))))) Q
  rw [tj, tq]
  exact h
theorem s_m_takes {d s : Nat} {S : mS} {Q : mQ} (hs : s < 32) (h : ∀ S', Fr [] [370] S S' → (∀ v, v < 6 → S'.2.2 370 v = S.2.2 366 (6 * s + v)) → Q none S') : Ev d n_X6_takes [.ref 6, .int (nI s)] S Q := by
  iterate 2 refine Wp.p rfl ?_
  refine (?_ : Wp d n_X6_takes 2 [(2, .int (nI 0)), (0, .ref 6), (1, .int (nI s))] [] S Q).sub (lS.mk rfl rfl (by repeat (first | exact lSub.nil | refine lSub.cons rfl ?_)))
  refine s_m_takes_it hs (by omega) (s_m_takes_it hs (by omega) (s_m_takes_it hs (by omega) (s_m_takes_it hs (by omega) (s_m_takes_it hs (by omega) (s_m_takes_it hs (by omega) ?_)))))
  iterate 2 refine Wp.p rfl ?_
  refine Wp.bT rfl (by decide) ?_
  refine Wp.r rfl trivial (h _ ((((((Fr.rf.a (by decide)).a (by decide)).a (by decide)).a (by decide)).a (by decide)).a (by decide)) (fun v hv => ?_))
  match v, hv with
  | 0, _ => rfl
  | 1, _ => rfl
  | 2, _ => rfl
  | 3, _ => rfl
  | 4, _ => rfl
  | 5, _ => rfl
theorem s_m_adds {d w : Nat} {S : mS} {Q : mQ} {P : oP} {x : Int32} (hc : MI P S) (hw : w < 3) (hb' : BA P w x)
    (h : ∀ S', Gm S S' → MI P S' → (∀ v, S'.2.2 366 v = S.2.2 366 v) → (∀ v, S'.2.2 370 v = S.2.2 370 v) → le x (S'.2.2 368 w) → Q none S') : Ev d n_X6_adds [.ref 6, .int (nI w), .int x] S Q := by
  have tw : tn (nI w) = w := tn_nI (by omega)
  have iw : vp_in (nI w) 3 := vp_in_nI (N := 3) hw (by omega)
  iterate 3 refine Wp.p rfl ?_
  refine Wp.g rfl iw ?_
  iterate 5 refine Wp.p rfl ?_
  refine Wp.g rfl iw ?_
  refine Wp.b rfl (fun (c : S.2.2 368 (tn (nI w)) ||| x = S.2.2 368 (tn (nI w))) => ?_) (fun (c : ¬ S.2.2 368 (tn (nI w)) ||| x = S.2.2 368 (tn (nI w))) => ?_)
  · rw [tw] at c
    exact Wp.r rfl trivial (h S (Gm.af Fr.rf) hc (fun _ => rfl) (fun _ => rfl) (le_of_or c))
  · rw [tw] at c
    iterate 4 refine Wp.p rfl ?_
    refine Wp.g rfl iw ?_
    iterate 2 refine Wp.p rfl ?_
    refine Wp.g rfl iw ?_
    iterate 2 refine Wp.p rfl ?_
    refine Wp.g rfl (Or.inr rfl) ?_
    refine Wp.r rfl trivial ?_
    show Q none (sF (sA S 368 (tn (nI w)) (S.2.2 368 (tn (nI w)) ||| x)) 269 1)
    rw [tw]
    have a1 : (sF (sA S 368 w (S.2.2 368 w ||| x)) 269 1).2.2 366 = S.2.2 366 := rfl
    have a3 : (sF (sA S 368 w (S.2.2 368 w ||| x)) 269 1).2.2 367 = S.2.2 367 := rfl
    have a4 : (sF (sA S 368 w (S.2.2 368 w ||| x)) 269 1).2.2 370 = S.2.2 370 := rfl
    have a2 : (sF (sA S 368 w (S.2.2 368 w ||| x)) 269 1).2.2 368 = upd (S.2.2 368) w (S.2.2 368 w ||| x) := rfl
    have f9 : (sF (sA S 368 w (S.2.2 368 w ||| x)) 269 1).1 269 = 1 := rfl
    have hF : Fr [269] [366, 367, 368, 370] S (sF (sA S 368 w (S.2.2 368 w ||| x)) 269 1) := (Fr.rf.a (by decide)).f (by decide)
    revert hF a1 a2 a3 a4 f9
    generalize sF (sA S 368 w (S.2.2 368 w ||| x)) 269 1 = S'
    intro a1 a3 a4 a2 f9 hF
    have up : ∀ i, le (S.2.2 368 i) (S'.2.2 368 i) := fun i => by
      rw [a2]
      by_cases z : i = w
      · rw [z, upd_at]; exact le.orl
      · rw [upd_ne z]; exact le.rf
    have ec : (mO S').2.2 = (mO S).2.2 := by
      show (fun s => !decide (S'.2.2 367 s = 0)) = _
      rw [a3]
      rfl
    have hle : oLe (mO S) (mO S') := ⟨fun q _ => by show le (S.2.2 366 q) (S'.2.2 366 q); rw [a1]; exact le.rf, fun i _ => up i, fun s _ z => by rw [ec]; exact z⟩
    have gt : oGt (mO S) (mO S') := Or.inr ⟨w, hw, fun z => c (le.or' (le.tr (y := S'.2.2 368 w) (by rw [a2, upd_at]; exact le.orr) z))⟩
    refine h S' ⟨hF, hle, fun z => by rw [f9] at z; exact absurd z (by decide), fun _ => Or.inr (Or.inl gt)⟩ ⟨hc.1.fr hF (by decide) (by decide), ?_, ?_⟩ (fun v => by rw [a1]) (fun v => by rw [a4]) (by rw [a2, upd_at]; exact le.orr)
    · refine hc.2.1.ad hb' (fun q _ => by show S'.2.2 366 q = S.2.2 366 q; rw [a1]) (fun i hi => ?_) (fun s _ z => by rw [ec] at z; exact z)
      show S'.2.2 368 i = S.2.2 368 i ∨ i = w ∧ S'.2.2 368 i = S.2.2 368 i ||| x
      rw [a2]
      by_cases z : i = w
      · rw [z, upd_at]; exact Or.inr ⟨rfl, rfl⟩
      · rw [upd_ne z]; exact Or.inl rfl
    · rw [ec, a1]; exact hc.2.2
-- comes
theorem s_m_come_it {d j : Nat} {S : mS} {Q : mQ} {to : Int32} {p : Prop} [Decidable p] (hj : j < 6) (h : Wp d n_X6_comes 16 [(3, .int (nI (j + 1))), (2, .int (bI (p ∧ ¬ S.2.2 370 j = 0))), (0, .ref 6), (1, .int to)] [] S Q) : Wp d n_X6_comes 16 [(3, .int (nI j)), (2, .int (bI p)), (0, .ref 6), (1, .int to)] [] S Q := by
  have tj : tn (nI j) = j := tn_nI (by omega)
  have hv : vp_in (nI j) 6 := vp_in_nI (N := 6) hj (by omega)
  rw [← nI_1] at h
  have fin : ∀ z : Int32, z = bI (p ∧ ¬ S.2.2 370 j = 0) → Wp d n_X6_comes 40 [(3, .int (nI j)), (2, .int (bI p)), (0, .ref 6), (1, .int to)] [.int z] S Q := fun z hz => by
    rw [← hz] at h
    iterate 3 refine Wp.p rfl ?_
    exact h.sub (lS.mk rfl rfl (by repeat (first | exact lSub.nil | refine lSub.cons rfl ?_)))
  iterate 2 refine Wp.p rfl ?_
  refine Wp.b rfl (fun (c : (6 : Int32) ≤ nI j) => absurd c (nI_ge (b := 6) hj (by decide))) (fun _ => ?_)
  iterate 1 refine Wp.p rfl ?_
  refine Wp.b rfl (fun (c : bI p = 0) => ?_) (fun (c : ¬ bI p = 0) => ?_)
  · iterate 1 refine Wp.p rfl ?_
    exact fin 0 (bI_f (fun z => bI_0.mp c z.1)).symm
  · have hp : p := Decidable.not_not.mp (fun z => c (bI_0.mpr z))
    iterate 3 refine Wp.p rfl ?_
    refine Wp.g rfl hv ?_
    refine Wp.b rfl (fun (c : S.2.2 370 (tn (nI j)) = 0) => ?_) (fun (c : ¬ S.2.2 370 (tn (nI j)) = 0) => ?_)
    · rw [tj] at c
      iterate 1 refine Wp.p rfl ?_
      exact fin 0 (bI_f (fun z => z.2 c)).symm
    · rw [tj] at c
      iterate 2 refine Wp.p rfl ?_
      exact fin 1 (bI_t ⟨hp, c⟩).symm
/-- a row of the model joined with what is then -/
def jnm (S0 : mS) (to j : Nat) (S : mS) : Prop := Fr [269] [366] S0 S ∧ (∀ q, (∀ v, v < j → ¬ q = 6 * to + v) → S.2.2 366 q = S0.2.2 366 q) ∧ (∀ v, v < j → S.2.2 366 (6 * to + v) = S0.2.2 366 (6 * to + v) ||| S0.2.2 370 v) ∧ (S.1 269 = 0 → S0.1 269 = 0 ∧ ∀ v, v < j → le (S0.2.2 370 v) (S0.2.2 366 (6 * to + v))) ∧ (¬ S.1 269 = 0 → ¬ S0.1 269 = 0 ∨ ∃ v, v < j ∧ ¬ le (S0.2.2 370 v) (S0.2.2 366 (6 * to + v)))
theorem s_m_join {d to : Nat} {Q : mQ} {z2 : Int32} (S0 : mS) (ht : to < 32) (h : ∀ S, jnm S0 to 6 S → Q none S) :
    ∀ (k j : Nat) (S : mS), j + k = 6 → jnm S0 to j S → Wp d n_X6_comes 75 [(3, .int (nI j)), (2, .int z2), (0, .ref 6), (1, .int (nI to))] [] S Q := by
  intro k
  induction k with
  | zero =>
    intro j S hj hJ
    obtain rfl : j = 6 := by omega
    iterate 2 refine Wp.p rfl ?_
    refine Wp.bT rfl (by decide) ?_
    exact Wp.r rfl trivial (h S hJ)
  | succ k ih =>
    intro j S hj hJ
    have hj6 : j < 6 := by omega
    have tj : tn (nI j) = j := tn_nI (by omega)
    have tq : tn (nI (6 * to + j)) = 6 * to + j := tn_nI (by omega)
    have hv : vp_in (nI j) 6 := vp_in_nI (N := 6) hj6 (by omega)
    have hq : vp_in (nI (6 * to + j)) 192 := vp_in_nI (N := 192) (by omega) (by omega)
    have e3 : S.2.2 370 = S0.2.2 370 := hJ.1.2.2 370 (by decide)
    have e1 : S.2.2 366 (6 * to + j) = S0.2.2 366 (6 * to + j) := hJ.2.1 _ (fun w hw => by omega)
    iterate 2 refine Wp.p rfl ?_
    refine Wp.b rfl (fun (c : (6 : Int32) ≤ nI j) => absurd c (nI_ge (b := 6) hj6 (by decide))) (fun _ => ?_)
    iterate 7 refine Wp.p rfl ?_
    refine (?_ : Wp d n_X6_comes 91 [(3, .int (nI j)), (2, .int z2), (0, .ref 6), (1, .int (nI to))] [.int (6 * nI to + nI j), .ref 366] S Q)
    rw [ix6]
    refine Wp.g rfl hq ?_
    iterate 3 refine Wp.p rfl ?_
    refine Wp.g rfl hv ?_
    iterate 8 refine Wp.p rfl ?_
    refine (?_ : Wp d n_X6_comes 109 [(3, .int (nI j)), (2, .int z2), (0, .ref 6), (1, .int (nI to))] [.int (6 * nI to + nI j), .ref 366, .int (S.2.2 366 (tn (nI (6 * to + j))) ||| S.2.2 370 (tn (nI j)))] S Q)
    rw [ix6]
    refine Wp.g rfl hq ?_
    refine Wp.b rfl (fun (c : S.2.2 366 (tn (nI (6 * to + j))) ||| S.2.2 370 (tn (nI j)) = S.2.2 366 (tn (nI (6 * to + j)))) => ?_) (fun (c : ¬ S.2.2 366 (tn (nI (6 * to + j))) ||| S.2.2 370 (tn (nI j)) = S.2.2 366 (tn (nI (6 * to + j)))) => ?_)
    · rw [tq, tj, e1, e3] at c
      iterate 2 refine Wp.p rfl ?_
      have := ih (j + 1) S (by omega) ⟨hJ.1, fun q hq => hJ.2.1 q (fun v hv => hq v (by omega)), fun v hv => ?_, fun z => ⟨(hJ.2.2.2.1 z).1, fun v hv => ?_⟩, fun z => (hJ.2.2.2.2 z).imp id (fun ⟨v, a, b⟩ => ⟨v, by omega, b⟩)⟩
      · rw [← nI_1] at this
        exact this.sub (lS.mk rfl rfl (by repeat (first | exact lSub.nil | refine lSub.cons rfl ?_)))
      · by_cases e : v = j
        · subst e
          rw [e1]; exact c.symm
        · exact hJ.2.2.1 v (by omega)
      · by_cases e : v = j
        · subst e
          exact le_of_or c
        · exact (hJ.2.2.2.1 z).2 v (by omega)
    · rw [tq, tj, e1, e3] at c
      iterate 7 refine Wp.p rfl ?_
      refine (?_ : Wp d n_X6_comes 123 [(3, .int (nI j)), (2, .int z2), (0, .ref 6), (1, .int (nI to))] [.int (6 * nI to + nI j), .ref 366] S Q)
      rw [ix6]
      iterate 1 refine Wp.p rfl ?_
      refine Wp.g rfl hq ?_
      iterate 3 refine Wp.p rfl ?_
      refine Wp.g rfl hv ?_
      iterate 1 refine Wp.p rfl ?_
      refine Wp.g rfl hq ?_
      iterate 2 refine Wp.p rfl ?_
      refine Wp.g rfl (Or.inr rfl) ?_
      iterate 2 refine Wp.p rfl ?_
      have := ih (j + 1) (sF (sA S 366 (6 * to + j) (S.2.2 366 (6 * to + j) ||| S.2.2 370 j)) 269 1) (by omega) ⟨(hJ.1.a (by decide)).f (by decide), fun q hq => ?_, fun v hv => ?_, fun z => absurd (show (1 : Int32) = 0 from z) (by decide), fun _ => Or.inr ⟨j, by omega, fun z => c z.or'⟩⟩
      · rw [← nI_1] at this
        refine Wp.sub (ls := [(3, .int (nI j + 1)), (2, .int z2), (0, .ref 6), (1, .int (nI to))]) ?_ (lS.mk rfl rfl (by repeat (first | exact lSub.nil | refine lSub.cons rfl ?_)))
        show Wp d n_X6_comes 75 _ [] (sF (sA S 366 (tn (nI (6 * to + j))) (S.2.2 366 (tn (nI (6 * to + j))) ||| S.2.2 370 (tn (nI j)))) 269 1) Q
        rw [tq, tj]
        exact this
      · show (sA S 366 (6 * to + j) (S.2.2 366 (6 * to + j) ||| S.2.2 370 j)).2.2 366 q = _
        rw [sA_at, upd_ne (hq j (by omega))]
        exact hJ.2.1 q (fun v hv => hq v (by omega))
      · show (sA S 366 (6 * to + j) (S.2.2 366 (6 * to + j) ||| S.2.2 370 j)).2.2 366 (6 * to + v) = _
        rw [sA_at]
        by_cases e : v = j
        · subst e
          rw [upd_at, e1, e3]
        · rw [upd_ne (by omega)]
          exact hJ.2.2.1 v (by omega)
