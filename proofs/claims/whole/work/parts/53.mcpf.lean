def cellC (x y : Int32) (i j : Nat) : Int32 := if (hb x i && hb y j && cpy i j) = true then 1 <<< (nI i &&& 31) else 0
def rowC (x y : Int32) (i : Nat) (f : Int32) : Int32 := f ||| cellC x y i 5 ||| cellC x y i 6 ||| cellC x y i 7 ||| cellC x y i 8 ||| cellC x y i 9
theorem s_m_cps_row {d i : Nat} {S : mS} {Q : mQ} {x y f : Int32} (hi : i < 10)
    (h : Wp d n_X6_copies 4 [(3, .int (nI (i + 1))), (2, .int (rowC x y i f)), (0, .int x), (1, .int y)] [] S Q) : Wp d n_X6_copies 4 [(3, .int (nI i)), (2, .int f), (0, .int x), (1, .int y)] [] S Q := by
  iterate 2 refine Wp.p rfl ?_
  refine Wp.b rfl (fun (c : (10 : Int32) ≤ nI i) => absurd c (nI_ge (b := 10) hi (by decide))) (fun _ => ?_)
  iterate 2 refine Wp.p rfl ?_
  refine (?_ : Wp d n_X6_copies 13 [(4, .int (nI 5)), (2, .int f), (3, .int (nI i)), (0, .int x), (1, .int y)] [] S Q).sub (lS.mk rfl rfl (by repeat (first | exact lSub.nil | refine lSub.cons rfl ?_)))
  refine s_m_cps_it hi (by omega) (s_m_cps_it hi (by omega) (s_m_cps_it hi (by omega) (s_m_cps_it hi (by omega) (s_m_cps_it hi (by omega) ?_))))
  iterate 2 refine Wp.p rfl ?_
  refine Wp.bT rfl (by decide) ?_
  iterate 2 refine Wp.p rfl ?_
  rw [← nI_1] at h
  exact h.sub (lS.mk rfl rfl (by repeat (first | exact lSub.nil | refine lSub.cons rfl ?_)))
theorem hb_cell {x y : Int32} {i j k : Nat} (hi : i < 10) : hb (cellC x y i j) k = (hb x i && (hb y j && cpy i j) && decide (k = i)) := by
  unfold cellC
  rw [← Bool.and_assoc]
  cases e : (hb x i && hb y j && cpy i j) with
  | true => rw [if_pos rfl, hb_shl (by omega)]; rfl
  | false => rw [if_neg (by decide), hb_0]; rfl
theorem hb_rowC {x y f : Int32} {i k : Nat} (hi : i < 10) : hb (rowC x y i f) k = (hb f k || decide (k = i) && (hb x i && (hb y 5 && cpy i 5 || hb y 6 && cpy i 6 || hb y 7 && cpy i 7 || hb y 8 && cpy i 8 || hb y 9 && cpy i 9))) := by
  unfold rowC
  rw [hb_or, hb_or, hb_or, hb_or, hb_or, hb_cell hi, hb_cell hi, hb_cell hi, hb_cell hi, hb_cell hi]
  generalize (hb y 5 && cpy i 5) = c5
  generalize (hb y 6 && cpy i 6) = c6
  generalize (hb y 7 && cpy i 7) = c7
  generalize (hb y 8 && cpy i 8) = c8
  generalize (hb y 9 && cpy i 9) = c9
  cases hb x i <;> cases decide (k = i) <;> cases c5 <;> cases c6 <;> cases c7 <;> cases c8 <;> cases c9 <;> cases hb f k <;> rfl
theorem hb_ite {b : Prop} [Decidable b] {x : Int32} {k : Nat} : hb (if b then x else 0) k = (decide b && hb x k) := by
  by_cases h : b
  · rw [if_pos h, decide_eq_true h]; rfl
  · rw [if_neg h, decide_eq_false h, hb_0]; rfl
theorem hb_c {c : Int32} {j k : Nat} (hj : j < 32) (hc : c = 1 <<< (nI j &&& 31)) : hb c k = decide (k = j) := by rw [hc, hb_shl hj]
theorem MV_hb {y : Int32} {k : Nat} : hb (MV y) k = (decide (k = 5) && hb y 5 || decide (k = 6) && hb y 6 || (decide (k = 7) || decide (k = 8) || decide (k = 9)) && (hb y 7 || hb y 8 || hb y 9)) := by
  unfold MV
  have d5 : decide (sh y 32) = hb y 5 := by
    have := sh_1 (x := y) (k := 5) (c := 32) (by decide) (by decide)
    cases e : hb y 5 with
    | true => exact decide_eq_true (this.mpr e)
    | false => exact decide_eq_false (fun z => by rw [this.mp z] at e; cases e)
  have d6 : decide (sh y 64) = hb y 6 := by
    have := sh_1 (x := y) (k := 6) (c := 64) (by decide) (by decide)
    cases e : hb y 6 with
    | true => exact decide_eq_true (this.mpr e)
    | false => exact decide_eq_false (fun z => by rw [this.mp z] at e; cases e)
  have d7 : decide (sh y 896) = (hb y 7 || hb y 8 || hb y 9) := by
    have := sh896 (m := y)
    cases e : (hb y 7 || hb y 8 || hb y 9) with
    | true =>
      refine decide_eq_true (this.mpr ?_)
      rw [Bool.or_eq_true, Bool.or_eq_true] at e
      rcases e with (e | e) | e
      · exact Or.inl e
      · exact Or.inr (Or.inl e)
      · exact Or.inr (Or.inr e)
    | false =>
      refine decide_eq_false (fun z => ?_)
      rcases this.mp z with y | y | y <;> rw [y] at e
      · cases e
      · rw [Bool.or_true, Bool.true_or] at e; cases e
      · rw [Bool.or_true] at e; cases e
  have h896 : hb 896 k = (decide (k = 7) || decide (k = 8) || decide (k = 9)) := by
    rw [show (896 : Int32) = 128 ||| 256 ||| 512 from rfl, hb_or, hb_or, hb_c (j := 7) (c := 128) (by decide) (by decide), hb_c (j := 8) (c := 256) (by decide) (by decide), hb_c (j := 9) (c := 512) (by decide) (by decide)]
  rw [hb_or, hb_or, hb_ite, hb_ite, hb_ite, d5, d6, d7, h896, hb_c (j := 5) (c := 32) (by decide) (by decide), hb_c (j := 6) (c := 64) (by decide) (by decide)]
  rw [Bool.and_comm (hb y 5), Bool.and_comm (hb y 6), Bool.and_comm (hb y 7 || hb y 8 || hb y 9)]
theorem copies_eq {x y : Int32} : rowC x y 9 (rowC x y 8 (rowC x y 7 (rowC x y 6 (rowC x y 5 0)))) = x &&& MV y := by
  refine hb_ext (fun k _ => ?_)
  rw [hb_rowC (by decide), hb_rowC (by decide), hb_rowC (by decide), hb_rowC (by decide), hb_rowC (by decide), hb_0, hb_and, MV_hb]
  by_cases h5 : k = 5
  · subst h5
    cases hb x 5 <;> cases hb y 5 <;> cases hb y 6 <;> cases hb y 7 <;> cases hb y 8 <;> cases hb y 9 <;> rfl
  by_cases h6 : k = 6
  · subst h6
    cases hb x 6 <;> cases hb y 5 <;> cases hb y 6 <;> cases hb y 7 <;> cases hb y 8 <;> cases hb y 9 <;> rfl
  by_cases h7 : k = 7
  · subst h7
    cases hb x 7 <;> cases hb y 5 <;> cases hb y 6 <;> cases hb y 7 <;> cases hb y 8 <;> cases hb y 9 <;> rfl
  by_cases h8 : k = 8
  · subst h8
    cases hb x 8 <;> cases hb y 5 <;> cases hb y 6 <;> cases hb y 7 <;> cases hb y 8 <;> cases hb y 9 <;> rfl
  by_cases h9 : k = 9
  · subst h9
    cases hb x 9 <;> cases hb y 5 <;> cases hb y 6 <;> cases hb y 7 <;> cases hb y 8 <;> cases hb y 9 <;> rfl
  rw [decide_eq_false h5, decide_eq_false h6, decide_eq_false h7, decide_eq_false h8, decide_eq_false h9]
  cases hb x k <;> rfl
theorem s_m_copies {d : Nat} {S : mS} {Q : mQ} {x y : Int32} (h : Q (some (.int (x &&& MV y))) S) : Ev d n_X6_copies [.int x, .int y] S Q := by
  rw [← copies_eq] at h
  iterate 4 refine Wp.p rfl ?_
  refine (?_ : Wp d n_X6_copies 4 [(3, .int (nI 5)), (2, .int 0), (0, .int x), (1, .int y)] [] S Q).sub (lS.mk rfl rfl (by repeat (first | exact lSub.nil | refine lSub.cons rfl ?_)))
  refine s_m_cps_row (by omega) (s_m_cps_row (by omega) (s_m_cps_row (by omega) (s_m_cps_row (by omega) (s_m_cps_row (by omega) ?_))))
  iterate 2 refine Wp.p rfl ?_
  refine Wp.bT rfl (by decide) ?_
  iterate 1 refine Wp.p rfl ?_
  exact Wp.r rfl trivial h
-- copyFaults
def nf (a p q : Bool) : Int32 := (bif a then 2 else 0) ||| (bif p then 16 else 0) ||| (bif q then 8 else 0)
theorem nf_16 (a p q : Bool) : nf a p q ||| 16 = nf a true q := by cases a <;> cases p <;> cases q <;> decide
theorem nf_8 (a p q : Bool) : nf a p q ||| 8 = nf a p true := by cases a <;> cases p <;> cases q <;> decide
theorem nf_0 (a p q : Bool) : nf a p q ||| 0 = nf a p q := Int32.or_zero
theorem nf_or (a p q p' q' : Bool) : nf a p q ||| ((bif p' then 16 else 0) ||| (bif q' then 8 else 0)) = nf a (p || p') (q || q') := by cases a <;> cases p <;> cases q <;> cases p' <;> cases q' <;> decide
def srcC (al : Nat → Int32) (i : Nat) : Int32 := if i = 7 then al 1 else if i = 8 then al 2 else if i = 9 then 33 else 1
def dstC (j : Nat) : Int32 := if j = 7 then 31 else if j = 8 then 25 else if j = 9 then 33 else 1023
def gdC (i j : Nat) : Bool := decide (5 ≤ i ∧ 5 ≤ j ∧ (i = j ∨ 7 ≤ i ∧ 7 ≤ j))
def g16 (f t : Int32) (al : Nat → Int32) (i j : Nat) : Bool := hb f i && hb t j && (!gdC i j || decide (sh (srcC al i) (dstC j ^^^ -1)))
def g8 (f t : Int32) (i j : Nat) : Bool := hb f i && hb t j && gdC i j
theorem s_m_cpf_it {d i j : Nat} {S : mS} {Q : mQ} {f t : Int32} {al : Nat → Int32} {a p q : Bool} (h1 : al 1 = S.2.2 368 1) (h2 : al 2 = S.2.2 368 2) (hi : i < 10) (hj : j < 10)
    (h : Wp d n_X6_copyFaults 27 [(5, .int (nI (j + 1))), (3, .int (nf a (p || g16 f t al i j) (q || g8 f t i j))), (4, .int (nI i)), (0, .ref 6), (1, .int f), (2, .int t)] [] S Q) : Wp d n_X6_copyFaults 27 [(5, .int (nI j)), (3, .int (nf a p q)), (4, .int (nI i)), (0, .ref 6), (1, .int f), (2, .int t)] [] S Q := by
  rw [← nI_1] at h
  have fin : ∀ z : Int32, z = nf a (p || g16 f t al i j) (q || g8 f t i j) → Wp d n_X6_copyFaults 208 [(5, .int (nI j)), (3, .int z), (4, .int (nI i)), (0, .ref 6), (1, .int f), (2, .int t)] [] S Q := fun z hz => by
    rw [← hz] at h
    iterate 2 refine Wp.p rfl ?_
    exact h.sub (lS.mk rfl rfl (by repeat (first | exact lSub.nil | refine lSub.cons rfl ?_)))
  iterate 2 refine Wp.p rfl ?_
  refine Wp.b rfl (fun (c : (10 : Int32) ≤ nI j) => absurd c (nI_ge (b := 10) hj (by decide))) (fun _ => ?_)
  iterate 5 refine Wp.p rfl ?_
  refine Wp.b rfl (fun (c : (f >>> (nI i &&& 31)) &&& 1 = 0) => ?_) (fun (c : ¬ (f >>> (nI i &&& 31)) &&& 1 = 0) => ?_)
  · rw [sr1 (by omega)] at c
    have e : hb f i = false := by
      cases e : hb f i with
      | false => rfl
      | true => rw [e] at c; exact absurd c (by decide)
    refine fin _ ?_
    unfold g16 g8
    rw [e, Bool.false_and, Bool.false_and, Bool.false_and, Bool.or_false, Bool.or_false]
  have cf : hb f i = true := by
    rw [sr1 (by omega)] at c
    cases e : hb f i with
    | true => rfl
    | false => rw [e] at c; exact absurd (by decide) c
  iterate 5 refine Wp.p rfl ?_
  refine Wp.b rfl (fun (c : ¬ (t >>> (nI j &&& 31)) &&& 1 = 0) => ?_) (fun (c : ¬ ¬ (t >>> (nI j &&& 31)) &&& 1 = 0) => ?_)
  case refine_2 =>
    rw [sr1 (by omega)] at c
    have e : hb t j = false := by
      cases e : hb t j with
      | false => rfl
      | true => rw [e] at c; exact absurd (by decide) c
    iterate 1 refine Wp.p rfl ?_
    refine fin _ ?_
    unfold g16 g8
    rw [e, Bool.and_false, Bool.false_and, Bool.false_and, Bool.or_false, Bool.or_false]
  have ct : hb t j = true := by
    rw [sr1 (by omega)] at c
    cases e : hb t j with
    | true => rfl
    | false => rw [e] at c; exact absurd (by decide) c
  have e16 : g16 f t al i j = (!gdC i j || decide (sh (srcC al i) (dstC j ^^^ -1))) := by unfold g16; rw [cf, ct]; rfl
  have e8 : g8 f t i j = gdC i j := by unfold g8; rw [cf, ct]; rfl
  rw [e16, e8] at fin
  have bad : gdC i j = false → Wp d n_X6_copyFaults 88 [(5, .int (nI j)), (3, .int (nf a p q)), (4, .int (nI i)), (0, .ref 6), (1, .int f), (2, .int t)] [] S Q := fun e => by
    iterate 5 refine Wp.p rfl ?_
    refine (fin (nf a p q ||| 16) ?_).sub (lS.mk rfl rfl (by repeat (first | exact lSub.nil | refine lSub.cons rfl ?_)))
    rw [nf_16, e, Bool.or_false, Bool.not_false, Bool.true_or, Bool.or_true]
  have good : gdC i j = true → Wp d n_X6_copyFaults 96 [(5, .int (nI j)), (3, .int (nf a p q)), (4, .int (nI i)), (0, .ref 6), (1, .int f), (2, .int t)] [] S Q := fun e => by
    rw [e, Bool.or_true, Bool.not_true, Bool.false_or] at fin
    have k187 : ∀ x y : Int32, x = srcC al i → y = dstC j → Wp d n_X6_copyFaults 187 [(6, .int x), (3, .int (nf a p q ||| 8)), (5, .int (nI j)), (4, .int (nI i)), (0, .ref 6), (1, .int f), (2, .int t)] [.int y] S Q := fun x y hx hy => by
      rw [hx, hy, nf_8]
      iterate 7 refine Wp.p rfl ?_
      refine Wp.b rfl (fun (c : srcC al i &&& (dstC j ^^^ -1) = 0) => ?_) (fun (c : ¬ srcC al i &&& (dstC j ^^^ -1) = 0) => ?_)
      · iterate 3 refine Wp.p rfl ?_
        refine (fin (nf a p true ||| 0) ?_).sub (lS.mk rfl rfl (by repeat (first | exact lSub.nil | refine lSub.cons rfl ?_)))
        rw [nf_0, decide_eq_false (fun z => z c), Bool.or_false]
      · iterate 4 refine Wp.p rfl ?_
        refine (fin (nf a p true ||| 16) ?_).sub (lS.mk rfl rfl (by repeat (first | exact lSub.nil | refine lSub.cons rfl ?_)))
        rw [nf_16, decide_eq_true c, Bool.or_true]
    have k146 : ∀ x : Int32, x = srcC al i → Wp d n_X6_copyFaults 146 [(3, .int (nf a p q ||| 8)), (5, .int (nI j)), (4, .int (nI i)), (0, .ref 6), (1, .int f), (2, .int t)] [.int x] S Q := fun x hx => by
      iterate 3 refine Wp.p rfl ?_
      by_cases j7 : j = 7
      · refine Wp.b rfl (fun (c : ¬ nI j = 7) => absurd c (show ¬ ¬ nI j = 7 by rw [j7]; decide)) (fun _ => ?_)
        iterate 2 refine Wp.p rfl ?_
        exact k187 x 31 hx (by unfold dstC; rw [if_pos j7])
      refine Wp.b rfl (fun _ => ?_) (fun (c : ¬ ¬ nI j = 7) => absurd (show ¬ nI j = 7 from kne2 (by omega) (by decide) j7) c)
      iterate 2 refine Wp.p rfl ?_
      by_cases j8 : j = 8
      · refine Wp.b rfl (fun (c : ¬ nI j = 8) => absurd c (show ¬ ¬ nI j = 8 by rw [j8]; decide)) (fun _ => ?_)
        iterate 2 refine Wp.p rfl ?_
        exact k187 x 25 hx (by unfold dstC; rw [if_neg j7, if_pos j8])
      refine Wp.b rfl (fun _ => ?_) (fun (c : ¬ ¬ nI j = 8) => absurd (show ¬ nI j = 8 from kne2 (by omega) (by decide) j8) c)
      iterate 2 refine Wp.p rfl ?_
      by_cases j9 : j = 9
      · refine Wp.b rfl (fun (c : ¬ nI j = 9) => absurd c (show ¬ ¬ nI j = 9 by rw [j9]; decide)) (fun _ => ?_)
        iterate 2 refine Wp.p rfl ?_
        exact k187 x 33 hx (by unfold dstC; rw [if_neg j7, if_neg j8, if_pos j9])
      refine Wp.b rfl (fun _ => ?_) (fun (c : ¬ ¬ nI j = 9) => absurd (show ¬ nI j = 9 from kne2 (by omega) (by decide) j9) c)
      iterate 1 refine Wp.p rfl ?_
      exact k187 x 1023 hx (by unfold dstC; rw [if_neg j7, if_neg j8, if_neg j9])
    iterate 6 refine Wp.p rfl ?_
    refine (?_ : Wp d n_X6_copyFaults 105 [(3, .int (nf a p q ||| 8)), (5, .int (nI j)), (4, .int (nI i)), (0, .ref 6), (1, .int f), (2, .int t)] [.int 7, .int (nI i)] S Q).sub (lS.mk rfl rfl (by repeat (first | exact lSub.nil | refine lSub.cons rfl ?_)))
    by_cases i7 : i = 7
    · refine Wp.b rfl (fun (c : ¬ nI i = 7) => absurd c (show ¬ ¬ nI i = 7 by rw [i7]; decide)) (fun _ => ?_)
      iterate 3 refine Wp.p rfl ?_
      refine Wp.g rfl (show vp_in 1 3 by unfold vp_in; decide) ?_
      iterate 1 refine Wp.p rfl ?_
      exact k146 (S.2.2 368 1) (by unfold srcC; rw [if_pos i7, h1])
    refine Wp.b rfl (fun _ => ?_) (fun (c : ¬ ¬ nI i = 7) => absurd (show ¬ nI i = 7 from kne2 (by omega) (by decide) i7) c)
    iterate 2 refine Wp.p rfl ?_
    by_cases i8 : i = 8
    · refine Wp.b rfl (fun (c : ¬ nI i = 8) => absurd c (show ¬ ¬ nI i = 8 by rw [i8]; decide)) (fun _ => ?_)
      iterate 3 refine Wp.p rfl ?_
      refine Wp.g rfl (show vp_in 2 3 by unfold vp_in; decide) ?_
      iterate 1 refine Wp.p rfl ?_
      exact k146 (S.2.2 368 2) (by unfold srcC; rw [if_neg i7, if_pos i8, h2])
    refine Wp.b rfl (fun _ => ?_) (fun (c : ¬ ¬ nI i = 8) => absurd (show ¬ nI i = 8 from kne2 (by omega) (by decide) i8) c)
    iterate 2 refine Wp.p rfl ?_
    by_cases i9 : i = 9
    · refine Wp.b rfl (fun (c : ¬ nI i = 9) => absurd c (show ¬ ¬ nI i = 9 by rw [i9]; decide)) (fun _ => ?_)
      iterate 2 refine Wp.p rfl ?_
      exact k146 33 (by unfold srcC; rw [if_neg i7, if_neg i8, if_pos i9])
    refine Wp.b rfl (fun _ => ?_) (fun (c : ¬ ¬ nI i = 9) => absurd (show ¬ nI i = 9 from kne2 (by omega) (by decide) i9) c)
    iterate 1 refine Wp.p rfl ?_
    exact k146 1 (by unfold srcC; rw [if_neg i7, if_neg i8, if_neg i9])
  iterate 2 refine Wp.p rfl ?_
  refine Wp.b rfl (fun (c : nI i < 5) => ?_) (fun (c : ¬ nI i < 5) => ?_)
  · have l : i < 5 := (nI_ltI (b := 5) (by omega) (by decide)).mp c
    exact bad (decide_eq_false (fun z => by omega))
  have gi : 5 ≤ i := Nat.le_of_not_lt (fun z => c ((nI_ltI (b := 5) (by omega) (by decide)).mpr z))
  iterate 2 refine Wp.p rfl ?_
  refine Wp.b rfl (fun (c : nI j < 5) => ?_) (fun (c : ¬ nI j < 5) => ?_)
  · have l : j < 5 := (nI_ltI (b := 5) (by omega) (by decide)).mp c
    exact bad (decide_eq_false (fun z => by omega))
  have gj : 5 ≤ j := Nat.le_of_not_lt (fun z => c ((nI_ltI (b := 5) (by omega) (by decide)).mpr z))
  iterate 2 refine Wp.p rfl ?_
  by_cases e : i = j
  · refine Wp.b rfl (fun _ => ?_) (fun (c : ¬ nI i = nI j) => absurd (show nI i = nI j by rw [e]) c)
    exact good (decide_eq_true ⟨gi, gj, Or.inl e⟩)
  refine Wp.b rfl (fun (c : nI i = nI j) => absurd c (show ¬ nI i = nI j from kne2 (by omega) (by omega) e)) (fun _ => ?_)
  iterate 2 refine Wp.p rfl ?_
  refine Wp.b rfl (fun (c : nI i < 7) => ?_) (fun (c : ¬ nI i < 7) => ?_)
  · have l : i < 7 := (nI_ltI (b := 7) (by omega) (by decide)).mp c
    exact bad (decide_eq_false (fun z => by omega))
  have gi7 : 7 ≤ i := Nat.le_of_not_lt (fun z => c ((nI_ltI (b := 7) (by omega) (by decide)).mpr z))
  iterate 2 refine Wp.p rfl ?_
  refine Wp.b rfl (fun (c : 7 ≤ nI j) => ?_) (fun (c : ¬ 7 ≤ nI j) => ?_)
  · have l : 7 ≤ j := Nat.le_of_not_lt (fun z => nI_ge (b := 7) z (by decide) c)
    exact good (decide_eq_true ⟨gi, gj, Or.inr ⟨gi7, l⟩⟩)
  · have l : j < 7 := (nI_ltI (b := 7) (by omega) (by decide)).mp (Int32.not_le.mp c)
    exact bad (decide_eq_false (fun z => by omega))
