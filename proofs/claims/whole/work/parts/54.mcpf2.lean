def anyB (g : Nat → Bool) : Nat → Bool
  | 0 => false
  | n + 1 => anyB g n || g (n + 1)
theorem anyB_iff {g : Nat → Bool} : ∀ {n : Nat}, anyB g n = true ↔ ∃ j, 1 ≤ j ∧ j ≤ n ∧ g j = true := by
  intro n
  induction n with
  | zero => exact ⟨fun h => (by cases h), fun ⟨j, h1, h2, _⟩ => absurd h1 (by omega)⟩
  | succ n ih =>
    unfold anyB
    rw [Bool.or_eq_true, ih]
    constructor
    · rintro (⟨j, h1, h2, h3⟩ | h)
      · exact ⟨j, h1, by omega, h3⟩
      · exact ⟨n + 1, by omega, by omega, h⟩
    · rintro ⟨j, h1, h2, h3⟩
      by_cases e : j = n + 1
      · rw [e] at h3; exact Or.inr h3
      · exact Or.inl ⟨j, h1, by omega, h3⟩
theorem anyB_c {g g' : Nat → Bool} : ∀ {n : Nat}, (∀ j, 1 ≤ j → j ≤ n → g j = g' j) → anyB g n = anyB g' n := by
  intro n
  induction n with
  | zero => intro _; rfl
  | succ n ih =>
    intro h
    unfold anyB
    rw [ih (fun j h1 h2 => h j h1 (by omega)), h (n + 1) (by omega) (by omega)]
theorem s_m_cpf_row {d i : Nat} {S : mS} {Q : mQ} {f t : Int32} {al : Nat → Int32} {a p q : Bool} (h1 : al 1 = S.2.2 368 1) (h2 : al 2 = S.2.2 368 2) (hi : i < 10)
    (h : Wp d n_X6_copyFaults 17 [(4, .int (nI (i + 1))), (3, .int (nf a (p || anyB (g16 f t al i) 9) (q || anyB (g8 f t i) 9))), (0, .ref 6), (1, .int f), (2, .int t)] [] S Q) :
    ∀ k m, m + k = 9 → Wp d n_X6_copyFaults 27 [(5, .int (nI (m + 1))), (3, .int (nf a (p || anyB (g16 f t al i) m) (q || anyB (g8 f t i) m))), (4, .int (nI i)), (0, .ref 6), (1, .int f), (2, .int t)] [] S Q := by
  intro k
  induction k with
  | zero =>
    intro m hm
    obtain rfl : m = 9 := by omega
    iterate 2 refine Wp.p rfl ?_
    refine Wp.bT rfl (by decide) ?_
    iterate 2 refine Wp.p rfl ?_
    rw [← nI_1] at h
    exact h.sub (lS.mk rfl rfl (by repeat (first | exact lSub.nil | refine lSub.cons rfl ?_)))
  | succ k ih =>
    intro m hm
    refine s_m_cpf_it h1 h2 hi (by omega) ?_
    rw [Bool.or_assoc, Bool.or_assoc]
    exact ih (m + 1) (by omega)
theorem s_m_cpf_tab {d : Nat} {S : mS} {Q : mQ} {f t : Int32} {al : Nat → Int32} {a : Bool} (h1 : al 1 = S.2.2 368 1) (h2 : al 2 = S.2.2 368 2)
    (h : Q (some (.int (nf a (anyB (fun i => anyB (g16 f t al i) 9) 9) (anyB (fun i => anyB (g8 f t i) 9) 9)))) S) :
    ∀ k m, m + k = 9 → Wp d n_X6_copyFaults 17 [(4, .int (nI (m + 1))), (3, .int (nf a (anyB (fun i => anyB (g16 f t al i) 9) m) (anyB (fun i => anyB (g8 f t i) 9) m))), (0, .ref 6), (1, .int f), (2, .int t)] [] S Q := by
  intro k
  induction k with
  | zero =>
    intro m hm
    obtain rfl : m = 9 := by omega
    iterate 2 refine Wp.p rfl ?_
    refine Wp.bT rfl (by decide) ?_
    iterate 1 refine Wp.p rfl ?_
    exact Wp.r rfl trivial h
  | succ k ih =>
    intro m hm
    have hm9 : m + 1 < 10 := by omega
    iterate 2 refine Wp.p rfl ?_
    refine Wp.b rfl (fun (c : (10 : Int32) ≤ nI (m + 1)) => absurd c (nI_ge (b := 10) hm9 (by decide))) (fun _ => ?_)
    iterate 2 refine Wp.p rfl ?_
    have := s_m_cpf_row (i := m + 1) (Q := Q) (f := f) (t := t) (a := a) (p := anyB (fun i => anyB (g16 f t al i) 9) m) (q := anyB (fun i => anyB (g8 f t i) 9) m) h1 h2 (by omega) (ih (m + 1) (by omega)) 9 0 (by omega)
    rw [show anyB (g16 f t al (m + 1)) 0 = false from rfl, show anyB (g8 f t (m + 1)) 0 = false from rfl, Bool.or_false, Bool.or_false] at this
    exact this.sub (lS.mk rfl rfl (by repeat (first | exact lSub.nil | refine lSub.cons rfl ?_)))
theorem mvX_nf {f t : Int32} {al : Nat → Int32} : ∀ n, mvX f t al n = nf (decide (sh (f ||| t) 1)) (anyB (fun i => hb f i && decide (unF i (t &&& -2) al)) n) (anyB (fun i => hb f i && decide (sh (t &&& -2) (m_sv 502 i))) n) := by
  intro n
  induction n with
  | zero =>
    unfold mvX anyB nf
    by_cases c : sh (f ||| t) 1
    · rw [if_pos c, decide_eq_true c]; rfl
    · rw [if_neg c, decide_eq_false c]; rfl
  | succ n ih =>
    unfold mvX anyB
    rw [ih, ← nf_or]
    congr 1
    cases e : hb f (n + 1) with
    | false =>
      rw [if_neg (by decide), Bool.false_and, Bool.false_and]
      decide
    | true =>
      rw [if_pos rfl, Bool.true_and, Bool.true_and]
      unfold frX
      congr 1
      · by_cases c : unF (n + 1) (t &&& -2) al
        · rw [if_pos c, decide_eq_true c]; rfl
        · rw [if_neg c, decide_eq_false c]; rfl
      · by_cases c : sh (t &&& -2) (m_sv 502 (n + 1))
        · rw [if_pos c, decide_eq_true c]; rfl
        · rw [if_neg c, decide_eq_false c]; rfl
theorem hb_502 : ∀ i, i < 10 → ∀ j, j < 10 → 1 ≤ i → 1 ≤ j → hb (m_sv 502 i) j = gdC i j := by decide
theorem hb_m2 {j : Nat} (hj : j < 32) : hb (-2) j = true ↔ ¬ j = 0 := by
  rw [show (-2 : Int32) = 1 ^^^ -1 from rfl, hb_not hj, hb_c (j := 0) (c := 1) (by decide) (by decide)]
  by_cases e : j = 0
  · rw [decide_eq_true e]; exact ⟨fun z => absurd z (by decide), fun z => absurd e z⟩
  · rw [decide_eq_false e]; exact ⟨fun _ => e, fun _ => rfl⟩
theorem cI_src {i : Nat} {al : Nat → Int32} (h7 : 7 ≤ i) (h9 : i ≤ 9) : cellI i al = srcC al i := by
  have : i = 7 ∨ i = 8 ∨ i = 9 := by omega
  rcases this with rfl | rfl | rfl <;> rfl
theorem src_rg {i : Nat} {al : Nat → Int32} (h1 : le (al 1) 31) (h2 : le (al 2) 25) : le (srcC al i) 1023 := by
  unfold srcC
  split
  · exact h1.tr (le_c (by decide))
  · split
    · exact h2.tr (le_c (by decide))
    · split
      · exact le_c (by decide)
      · exact le_c (by decide)
theorem unF_iff {i : Nat} {t : Int32} {al : Nat → Int32} (hi1 : 1 ≤ i) (hi9 : i ≤ 9) (ht : le t 1023) (h1 : le (al 1) 31) (h2 : le (al 2) 25) :
    unF i (t &&& -2) al ↔ ∃ j, 1 ≤ j ∧ j ≤ 9 ∧ hb t j = true ∧ (gdC i j = false ∨ sh (srcC al i) (dstC j ^^^ -1)) := by
  have kk : ∀ j, 1 ≤ j → j ≤ 9 → hb (m_sv 502 i) j = gdC i j := fun j a b => hb_502 i (by omega) j (by omega) hi1 a
  have tb : ∀ j, hb (t &&& -2) j = true → 1 ≤ j ∧ j ≤ 9 ∧ hb t j = true := fun j e => by
    have l := hb_lt e
    rw [hb_and, Bool.and_eq_true] at e
    have := lt10 ht e.1
    have := (hb_m2 l).mp e.2
    exact ⟨by omega, by omega, e.1⟩
  have bt : ∀ j, 1 ≤ j → j ≤ 9 → hb t j = true → hb (t &&& -2) j = true := fun j a b e => by
    rw [hb_and, e, (hb_m2 (by omega)).mpr (by omega)]; rfl
  have g7 : ∀ j, 7 ≤ j → gdC i j = true → ¬ j = i ∨ 7 ≤ i → 7 ≤ i := fun j hj e z => by
    have := of_decide_eq_true e
    omega
  constructor
  · intro h
    rcases h with h | ⟨h, e⟩ | ⟨h, e⟩ | ⟨h, e⟩
    · obtain ⟨j, e1, e2⟩ := nle_bit (fun z => h (le_and.mp z))
      obtain ⟨a, b, c⟩ := tb j e1
      rw [kk j a b] at e2
      exact ⟨j, a, b, c, Or.inl (by cases y : gdC i j with
        | false => rfl
        | true => exact absurd y e2)⟩
    · rw [hb_and, Bool.and_eq_true] at h
      obtain ⟨a, b, c⟩ := tb 7 h.1
      have g := h.2
      rw [kk 7 a b] at g
      have := of_decide_eq_true g
      refine ⟨7, a, b, c, Or.inr ?_⟩
      rw [cI_src (by omega) hi9] at e
      exact e
    · rw [hb_and, Bool.and_eq_true] at h
      obtain ⟨a, b, c⟩ := tb 8 h.1
      have g := h.2
      rw [kk 8 a b] at g
      have := of_decide_eq_true g
      refine ⟨8, a, b, c, Or.inr ?_⟩
      rw [cI_src (by omega) hi9] at e
      exact e
    · rw [hb_and, Bool.and_eq_true] at h
      obtain ⟨a, b, c⟩ := tb 9 h.1
      have g := h.2
      rw [kk 9 a b] at g
      have := of_decide_eq_true g
      refine ⟨9, a, b, c, Or.inr ?_⟩
      rw [cI_src (by omega) hi9] at e
      exact e
  · rintro ⟨j, a, b, c, h⟩
    cases y : gdC i j with
    | false =>
      refine Or.inl (fun z => ?_)
      have e := bt j a b c
      rw [← z, hb_and, kk j a b, y, Bool.and_false] at e
      cases e
    | true =>
      have hs := h.resolve_left (by rw [y]; decide)
      have e := bt j a b c
      have e2 : hb (t &&& -2 &&& m_sv 502 i) j = true := by rw [hb_and, e, kk j a b, y]; rfl
      have gd := of_decide_eq_true y
      have : j < 7 ∨ j = 7 ∨ j = 8 ∨ j = 9 := by omega
      rcases this with z | rfl | rfl | rfl
      · have d : dstC j = 1023 := by
          unfold dstC
          rw [if_neg (by omega), if_neg (by omega), if_neg (by omega)]
        rw [d] at hs
        exact absurd hs (le_sh.mp (src_rg h1 h2))
      · refine Or.inr (Or.inl ⟨e2, ?_⟩)
        rw [cI_src (by omega) hi9]
        exact hs
      · refine Or.inr (Or.inr (Or.inl ⟨e2, ?_⟩))
        rw [cI_src (by omega) hi9]
        exact hs
      · refine Or.inr (Or.inr (Or.inr ⟨e2, ?_⟩))
        rw [cI_src (by omega) hi9]
        exact hs
theorem shT_iff {i : Nat} {t : Int32} (hi1 : 1 ≤ i) (hi9 : i ≤ 9) (ht : le t 1023) : sh (t &&& -2) (m_sv 502 i) ↔ ∃ j, 1 ≤ j ∧ j ≤ 9 ∧ hb t j = true ∧ gdC i j = true := by
  rw [sh_bit]
  constructor
  · rintro ⟨j, hj, e1, e2⟩
    rw [hb_and, Bool.and_eq_true] at e1
    have := lt10 ht e1.1
    have := (hb_m2 hj).mp e1.2
    exact ⟨j, by omega, by omega, e1.1, by rw [← hb_502 i (by omega) j (by omega) hi1 (by omega)]; exact e2⟩
  · rintro ⟨j, a, b, c, e⟩
    exact ⟨j, by omega, by rw [hb_and, c, (hb_m2 (by omega)).mpr (by omega)]; rfl, by rw [hb_502 i (by omega) j (by omega) hi1 (by omega)]; exact e⟩
theorem bool_iff {a b : Bool} (h : a = true ↔ b = true) : a = b := by
  cases a <;> cases b
  · rfl
  · exact h.mpr rfl
  · exact (h.mp rfl).symm
  · rfl
theorem s_m_copyFaults {d : Nat} {S : mS} {Q : mQ} {f t : Int32} {al : Nat → Int32} (h1 : al 1 = S.2.2 368 1) (h2 : al 2 = S.2.2 368 2) (ht : le t 1023) (l1 : le (al 1) 31) (l2 : le (al 2) 25) (h : Q (some (.int (mvX f t al 9))) S) : Ev d n_X6_copyFaults [.ref 6, .int f, .int t] S Q := by
  have ex : anyB (fun i => hb f i && decide (unF i (t &&& -2) al)) 9 = anyB (fun i => anyB (g16 f t al i) 9) 9 := anyB_c (fun i a b => by
    refine bool_iff ?_
    rw [anyB_iff, Bool.and_eq_true, decide_eq_true_iff, unF_iff a b ht l1 l2]
    constructor
    · rintro ⟨x, j, y1, y2, y3, y4⟩
      refine ⟨j, y1, y2, ?_⟩
      unfold g16
      rw [x, y3, Bool.true_and, Bool.true_and, Bool.or_eq_true, decide_eq_true_iff]
      refine y4.imp (fun z => by rw [z]; rfl) id
    · rintro ⟨j, y1, y2, y3⟩
      unfold g16 at y3
      rw [Bool.and_eq_true, Bool.and_eq_true, Bool.or_eq_true, decide_eq_true_iff] at y3
      exact ⟨y3.1.1, j, y1, y2, y3.1.2, y3.2.imp (fun z => by cases e : gdC i j <;> rw [e] at z <;> first | rfl | cases z) id⟩)
  have ey : anyB (fun i => hb f i && decide (sh (t &&& -2) (m_sv 502 i))) 9 = anyB (fun i => anyB (g8 f t i) 9) 9 := anyB_c (fun i a b => by
    refine bool_iff ?_
    rw [anyB_iff, Bool.and_eq_true, decide_eq_true_iff, shT_iff a b ht]
    constructor
    · rintro ⟨x, j, y1, y2, y3, y4⟩
      refine ⟨j, y1, y2, ?_⟩
      unfold g8
      rw [x, y3, y4]
      rfl
    · rintro ⟨j, y1, y2, y3⟩
      unfold g8 at y3
      rw [Bool.and_eq_true, Bool.and_eq_true] at y3
      exact ⟨y3.1.1, j, y1, y2, y3.1.2, y3.2⟩)
  rw [mvX_nf, ex, ey] at h
  have k13 : ∀ z : Int32, z = nf (decide (sh (f ||| t) 1)) false false → Wp d n_X6_copyFaults 13 [(0, .ref 6), (1, .int f), (2, .int t)] [.int z] S Q := fun z hz => by
    rw [hz]
    iterate 3 refine Wp.p rfl ?_
    exact (s_m_cpf_tab h1 h2 h 9 0 (by omega)).sub (lS.mk rfl rfl (by repeat (first | exact lSub.nil | refine lSub.cons rfl ?_)))
  iterate 5 refine Wp.p rfl ?_
  refine Wp.b rfl (fun (c : (f ||| t) &&& 1 = 0) => ?_) (fun (c : ¬ (f ||| t) &&& 1 = 0) => ?_)
  · iterate 1 refine Wp.p rfl ?_
    exact k13 0 (by rw [decide_eq_false (fun z => z c)]; rfl)
  · iterate 2 refine Wp.p rfl ?_
    exact k13 2 (by rw [decide_eq_true c]; rfl)
