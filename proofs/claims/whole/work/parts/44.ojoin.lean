theorem s_O_goTo_it {d to j : Nat} {S : mS} {Q : mQ} {m : Int32} (ht : to < 32) (hj : j < 6)
    (h1 : ¬ m = 0 ∨ ¬ le (S.2.2 183 j) (S.2.2 181 (6 * to + j)) → Wp (d + 1) n_X2_goTo 16 [(3, .int (nI (j + 1))), (2, .int 1), (0, .ref 2), (1, .int (nI to))] [] (sA S 181 (6 * to + j) (S.2.2 181 (6 * to + j) ||| S.2.2 183 j)) Q)
    (h0 : m = 0 → le (S.2.2 183 j) (S.2.2 181 (6 * to + j)) → Wp (d + 1) n_X2_goTo 16 [(3, .int (nI (j + 1))), (2, .int 0), (0, .ref 2), (1, .int (nI to))] [] (sA S 181 (6 * to + j) (S.2.2 181 (6 * to + j) ||| S.2.2 183 j)) Q) :
    Wp (d + 1) n_X2_goTo 16 [(3, .int (nI j)), (2, .int m), (0, .ref 2), (1, .int (nI to))] [] S Q := by
  have tj : tn (nI j) = j := tn_nI (by omega)
  have tq : tn (nI (6 * to + j)) = 6 * to + j := tn_nI (by omega)
  have hv : vp_in (nI j) 6 := vp_in_nI (N := 6) hj (by omega)
  have hq : vp_in (nI (6 * to + j)) 192 := vp_in_nI (N := 192) (by omega) (by omega)
  have end1 : ∀ z : Int32, (Wp (d + 1) n_X2_goTo 16 [(3, .int (nI (j + 1))), (2, .int z), (0, .ref 2), (1, .int (nI to))] [] (sA S 181 (6 * to + j) (S.2.2 181 (6 * to + j) ||| S.2.2 183 j)) Q) → Wp (d + 1) n_X2_goTo 60 [(4, .int (nI (6 * to + j))), (3, .int (nI j)), (2, .int m), (0, .ref 2), (1, .int (nI to))] [.int z] S Q := fun z hz => by
    iterate 5 refine Wp.p rfl ?_
    refine Wp.g rfl hq ?_
    iterate 3 refine Wp.p rfl ?_
    refine Wp.g rfl hv ?_
    iterate 1 refine Wp.p rfl ?_
    refine Wp.g rfl hq ?_
    iterate 2 refine Wp.p rfl ?_
    rw [← nI_1] at hz
    refine Wp.sub (ls := [(3, .int (nI j + 1)), (2, .int z), (0, .ref 2), (1, .int (nI to))]) ?_ (lS.mk rfl rfl (by repeat (first | exact lSub.nil | refine lSub.cons rfl ?_)))
    show Wp (d + 1) n_X2_goTo 16 _ [] (sA S 181 (tn (nI (6 * to + j))) (S.2.2 181 (tn (nI (6 * to + j))) ||| S.2.2 183 (tn (nI j)))) Q
    rw [tq, tj]
    exact hz
  iterate 2 refine Wp.p rfl ?_
  refine Wp.b rfl (fun (c : (6 : Int32) ≤ nI j) => absurd c (nI_ge (b := 6) hj (by decide))) (fun _ => ?_)
  iterate 6 refine Wp.p rfl ?_
  refine (?_ : Wp (d + 1) n_X2_goTo 30 [(4, .int (nI to * 6 + nI j)), (3, .int (nI j)), (2, .int m), (0, .ref 2), (1, .int (nI to))] [] S Q).sub (lS.mk rfl rfl (by repeat (first | exact lSub.nil | refine lSub.cons rfl ?_)))
  rw [i6]
  iterate 1 refine Wp.p rfl ?_
  refine Wp.b rfl (fun (c : ¬ m = 0) => ?_) (fun (c : ¬ ¬ m = 0) => ?_)
  · iterate 2 refine Wp.p rfl ?_
    exact end1 1 (h1 (Or.inl c))
  · iterate 3 refine Wp.p rfl ?_
    refine Wp.g rfl hv ?_
    iterate 3 refine Wp.p rfl ?_
    refine Wp.g rfl hq ?_
    iterate 2 refine Wp.p rfl ?_
    refine Wp.i rfl (s_share (x := S.2.2 183 (tn (nI j))) (y := S.2.2 181 (tn (nI (6 * to + j))) ^^^ -1) (fun e => ?_) (fun e => ?_))
    · rw [tj, tq] at e
      refine Wp.b rfl (fun (e : (1 : Int32) = 0) => absurd e (by decide)) (fun _ => ?_)
      iterate 2 refine Wp.p rfl ?_
      exact end1 1 (h1 (Or.inr (fun z => le_sh.mp z e)))
    · rw [tj, tq] at e
      refine Wp.b rfl (fun _ => ?_) (fun (e : ¬ (0 : Int32) = 0) => absurd rfl e)
      iterate 1 refine Wp.p rfl ?_
      exact end1 0 (h0 (Decidable.not_not.mp c) (le_sh.mpr (fun z => z e)))
/-- a row joined with what is then -/
def jnd (S0 : mS) (to j : Nat) (S : mS) : Prop := Fr [] [181] S0 S ∧ (∀ q, (∀ v, v < j → ¬ q = 6 * to + v) → S.2.2 181 q = S0.2.2 181 q) ∧ ∀ v, v < j → S.2.2 181 (6 * to + v) = S0.2.2 181 (6 * to + v) ||| S0.2.2 183 v
theorem jnd.s {S0 S : mS} {to j : Nat} (h : jnd S0 to j S) : jnd S0 to (j + 1) (sA S 181 (6 * to + j) (S.2.2 181 (6 * to + j) ||| S.2.2 183 j)) := by
  have e3 : S.2.2 183 = S0.2.2 183 := h.1.2.2 183 (by decide)
  refine ⟨h.1.a (by decide), fun q hq => ?_, fun v hv => ?_⟩
  · rw [sA_at, upd_ne (hq j (by omega))]
    exact h.2.1 q (fun v hv => hq v (by omega))
  · rw [sA_at]
    by_cases e : v = j
    · subst e
      rw [upd_at, h.2.1 _ (fun w hw => by omega), e3]
    · rw [upd_ne (by omega)]
      exact h.2.2 v (by omega)
theorem s_O_goTo_loop {d to : Nat} {Q : mQ} (S0 : mS) (ht : to < 32)
    (h1 : ∀ S, jnd S0 to 6 S → (∃ v, v < 6 ∧ ¬ le (S0.2.2 183 v) (S0.2.2 181 (6 * to + v))) → Wp (d + 1) n_X2_goTo 16 [(3, .int (nI 6)), (2, .int 1), (0, .ref 2), (1, .int (nI to))] [] S Q)
    (h0 : ∀ S, jnd S0 to 6 S → (∀ v, v < 6 → le (S0.2.2 183 v) (S0.2.2 181 (6 * to + v))) → Wp (d + 1) n_X2_goTo 16 [(3, .int (nI 6)), (2, .int 0), (0, .ref 2), (1, .int (nI to))] [] S Q) :
    ∀ (k j : Nat) (S : mS) (m : Int32), j + k = 6 → jnd S0 to j S → (m = 1 ∧ (∃ v, v < j ∧ ¬ le (S0.2.2 183 v) (S0.2.2 181 (6 * to + v))) ∨ m = 0 ∧ ∀ v, v < j → le (S0.2.2 183 v) (S0.2.2 181 (6 * to + v))) →
    Wp (d + 1) n_X2_goTo 16 [(3, .int (nI j)), (2, .int m), (0, .ref 2), (1, .int (nI to))] [] S Q := by
  intro k
  induction k with
  | zero =>
    intro j S m hj hJ hm
    obtain rfl : j = 6 := by omega
    rcases hm with ⟨rfl, z⟩ | ⟨rfl, z⟩
    · exact h1 S hJ z
    · exact h0 S hJ z
  | succ k ih =>
    intro j S m hj hJ hm
    have e3 : S.2.2 183 = S0.2.2 183 := hJ.1.2.2 183 (by decide)
    have e1 : S.2.2 181 (6 * to + j) = S0.2.2 181 (6 * to + j) := hJ.2.1 _ (fun w hw => by omega)
    refine s_O_goTo_it ht (by omega) (fun c => ?_) (fun c c2 => ?_)
    · refine ih (j + 1) _ 1 (by omega) hJ.s (Or.inl ⟨rfl, ?_⟩)
      rcases hm with ⟨-, v, hv, z⟩ | ⟨z, -⟩
      · exact ⟨v, by omega, z⟩
      · rcases c with c | c
        · exact absurd z c
        · rw [e3, e1] at c
          exact ⟨j, by omega, c⟩
    · refine ih (j + 1) _ 0 (by omega) hJ.s (Or.inr ⟨rfl, fun v hv => ?_⟩)
      rcases hm with ⟨z, -⟩ | ⟨-, z⟩
      · rw [c] at z; exact absurd z (by decide)
      · by_cases e : v = j
        · subst e
          rw [e3, e1] at c2
          exact c2
        · exact z v (by omega)
theorem s_O_goTo_raw {d to : Nat} {S : mS} {Q : mQ} (ht : to < 32) (hh : nI to < S.1 125)
    (h : ∀ S', Fr [84, 85] [181] S S' → (∀ q, (∀ v, v < 6 → ¬ q = 6 * to + v) → S'.2.2 181 q = S.2.2 181 q) → (∀ v, v < 6 → S'.2.2 181 (6 * to + v) = S.2.2 181 (6 * to + v) ||| S.2.2 183 v) → S'.1 84 = S.1 84 ||| 1 <<< (nI to &&& 31) → ((∃ v, v < 6 ∧ ¬ le (S.2.2 183 v) (S.2.2 181 (6 * to + v))) ∧ S'.1 85 = S.1 85 ||| 1 <<< (nI to &&& 31) ∨ (∀ v, v < 6 → le (S.2.2 183 v) (S.2.2 181 (6 * to + v))) ∧ S'.1 85 = S.1 85) → Q none S') : Ev (d + 1) n_X2_goTo [.ref 2, .int (nI to)] S Q := by
  iterate 3 refine Wp.p rfl ?_
  refine Wp.i rfl (s_P_has ?_)
  rw [bI_t ⟨nI_pos' (by omega), hh⟩]
  refine Wp.b rfl (fun _ => ?_) (fun (e : ¬ ¬ (1 : Int32) = 0) => absurd (by decide) e)
  iterate 4 refine Wp.p rfl ?_
  refine (?_ : Wp (d + 1) n_X2_goTo 16 [(3, .int (nI 0)), (2, .int 0), (0, .ref 2), (1, .int (nI to))] [] S Q).sub (lS.mk rfl rfl (by repeat (first | exact lSub.nil | refine lSub.cons rfl ?_)))
  refine s_O_goTo_loop S ht (fun S1 hJ hm => ?_) (fun S1 hJ hm => ?_) 6 0 S 0 (by omega) ⟨Fr.rf, fun _ _ => rfl, fun v hv => absurd hv (by omega)⟩ (Or.inr ⟨rfl, fun v hv => absurd hv (by omega)⟩)
  · have f : ∀ q, S1.1 q = S.1 q := fun q => hJ.1.1 q List.not_mem_nil
    iterate 2 refine Wp.p rfl ?_
    refine Wp.bT rfl (by decide) ?_
    iterate 9 refine Wp.p rfl ?_
    refine Wp.b rfl (fun (e : (1 : Int32) = 0) => absurd e (by decide)) (fun _ => ?_)
    repeat refine Wp.p rfl ?_
    refine Wp.r rfl trivial (h _ (((hJ.1.up (by decide) (by decide)).f (by decide)).f (by decide)) hJ.2.1 hJ.2.2 ?_ (Or.inl ⟨hm, ?_⟩))
    · show S1.1 84 ||| 1 <<< (nI to &&& 31) = _
      rw [f]
    · show S1.1 85 ||| 1 <<< (nI to &&& 31) = _
      rw [f]
  · have f : ∀ q, S1.1 q = S.1 q := fun q => hJ.1.1 q List.not_mem_nil
    iterate 2 refine Wp.p rfl ?_
    refine Wp.bT rfl (by decide) ?_
    iterate 9 refine Wp.p rfl ?_
    refine Wp.b rfl (fun _ => ?_) (fun (e : ¬ (0 : Int32) = 0) => absurd rfl e)
    repeat refine Wp.p rfl ?_
    refine Wp.r rfl trivial (h _ ((hJ.1.up (by decide) (by decide)).f (by decide)) hJ.2.1 hJ.2.2 ?_ (Or.inr ⟨hm, ?_⟩))
    · show S1.1 84 ||| 1 <<< (nI to &&& 31) = _
      rw [f]
    · exact f 85
theorem s_O_goTo_out {d : Nat} {S : mS} {Q : mQ} {to : Int32} (hh : ¬ (0 ≤ to ∧ to < S.1 125)) (h : Q none S) : Ev (d + 1) n_X2_goTo [.ref 2, .int to] S Q := by
  iterate 3 refine Wp.p rfl ?_
  refine Wp.i rfl (s_P_has ?_)
  rw [bI_f hh]
  refine Wp.b rfl (fun (e : ¬ (0 : Int32) = 0) => absurd rfl e) (fun _ => ?_)
  repeat refine Wp.p rfl ?_
  exact Wp.r rfl trivial h
