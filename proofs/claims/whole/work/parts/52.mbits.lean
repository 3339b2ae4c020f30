theorem sr1 {x : Int32} {k : Nat} (hk : k < 32) : (x >>> (nI k &&& 31)) &&& 1 = if hb x k = true then 1 else 0 := by
  rw [and_bit (k := 0) (c := 1) (by decide) (by decide), hb_shr hk]
theorem s_m_bits_it {d ty t : Nat} {S : mS} {Q : mQ} {f : Int32} (hy : ty < 11) (h1 : 1 ≤ t) (h9 : t < 10)
    (h : Wp (d + 1) n_X6_bitsOf 4 [(2, .int (nI (t + 1))), (1, .int (f ||| (if hb (m_sv 500 ty) t = true then 1 <<< (nI t &&& 31) else 0))), (0, .int (nI ty))] [] S Q) : Wp (d + 1) n_X6_bitsOf 4 [(2, .int (nI t)), (1, .int f), (0, .int (nI ty))] [] S Q := by
  iterate 2 refine Wp.p rfl ?_
  refine Wp.b rfl (fun (c : (10 : Int32) ≤ nI t) => absurd c (nI_ge (b := 10) h9 (by decide))) (fun _ => ?_)
  iterate 3 refine Wp.p rfl ?_
  refine Wp.i rfl (s_m_isOf ty hy t h1 (by omega) ?_)
  rw [← nI_1] at h
  by_cases c : hb (m_sv 500 ty) t = true
  · rw [if_pos c] at h
    rw [bI_t ((hB_hb (by omega)).mpr c)]
    refine Wp.b rfl (fun (e : (1 : Int32) = 0) => absurd e (by decide)) (fun _ => ?_)
    iterate 8 refine Wp.p rfl ?_
    exact h.sub (lS.mk rfl rfl (by repeat (first | exact lSub.nil | refine lSub.cons rfl ?_)))
  · rw [if_neg c] at h
    rw [bI_f (fun z => c ((hB_hb (by omega)).mp z))]
    refine Wp.b rfl (fun _ => ?_) (fun (e : ¬ (0 : Int32) = 0) => absurd rfl e)
    iterate 5 refine Wp.p rfl ?_
    exact h.sub (lS.mk rfl rfl (by repeat (first | exact lSub.nil | refine lSub.cons rfl ?_)))
def btA (m : Int32) : Nat → Int32
  | 0 => 0
  | n + 1 => btA m n ||| (if hb m (n + 1) = true then 1 <<< (nI (n + 1) &&& 31) else 0)
theorem btA_500 : ∀ ty, ty < 11 → btA (m_sv 500 ty) 9 = m_sv 500 ty := by decide
theorem s_m_bitsOf {d : Nat} {S : mS} {Q : mQ} {b : Int32} (hb' : vp_in b 11) (h : Q (some (.int (m_sv 500 (tn b)))) S) : Ev (d + 1) n_X6_bitsOf [.int b] S Q := by
  obtain ⟨l, e⟩ := V6 hb' (by decide)
  rw [← btA_500 _ l] at h
  rw [e]
  generalize tn b = ty at l h
  iterate 4 refine Wp.p rfl ?_
  refine (?_ : Wp (d + 1) n_X6_bitsOf 4 [(2, .int (nI 1)), (1, .int 0), (0, .int (nI ty))] [] S Q).sub (lS.mk rfl rfl (by repeat (first | exact lSub.nil | refine lSub.cons rfl ?_)))
  refine s_m_bits_it l (by omega) (by omega) (s_m_bits_it l (by omega) (by omega) (s_m_bits_it l (by omega) (by omega) (s_m_bits_it l (by omega) (by omega) (s_m_bits_it l (by omega) (by omega) (s_m_bits_it l (by omega) (by omega) (s_m_bits_it l (by omega) (by omega) (s_m_bits_it l (by omega) (by omega) (s_m_bits_it l (by omega) (by omega) ?_))))))))
  iterate 2 refine Wp.p rfl ?_
  refine Wp.bT rfl (by decide) ?_
  iterate 1 refine Wp.p rfl ?_
  exact Wp.r rfl trivial h
theorem and_ne2 {m K : Int32} : m &&& (K ^^^ -1) &&& -2 = m &&& ((K ||| 1) ^^^ -1) := by
  refine hb_ext (fun k hk => ?_)
  rw [hb_and, hb_and, hb_and, hb_not hk, hb_not hk, hb_or, show (-2 : Int32) = 1 ^^^ -1 from rfl, hb_not hk]
  cases hb m k <;> cases hb K k <;> cases hb 1 k <;> rfl
theorem useF_eq {m K : Int32} : (if sh m 1 then (2 : Int32) else 0) ||| (if ¬ m &&& (K ^^^ -1) &&& -2 = 0 then 4 else 0) = useF m K := by
  unfold useF castF
  rw [and_ne2]
  exact Int32.or_comm _ _
theorem s_m_casts {d : Nat} {S : mS} {Q : mQ} {m K : Int32} (h : Q (some (.int (useF m K))) S) : Ev d n_X6_casts [.int m, .int K] S Q := by
  rw [← useF_eq] at h
  have k11 : ∀ z : Int32, z = (if sh m 1 then 2 else 0) → Wp d n_X6_casts 11 [(0, .int m), (1, .int K)] [.int z] S Q := fun z hz => by
    rw [← hz] at h
    iterate 7 refine Wp.p rfl ?_
    refine Wp.b rfl (fun (c : m &&& (K ^^^ -1) &&& -2 = 0) => ?_) (fun (c : ¬ m &&& (K ^^^ -1) &&& -2 = 0) => ?_)
    · rw [if_neg (fun z => z c)] at h
      iterate 2 refine Wp.p rfl ?_
      exact Wp.r rfl trivial h
    · rw [if_pos c] at h
      iterate 3 refine Wp.p rfl ?_
      exact Wp.r rfl trivial h
  iterate 3 refine Wp.p rfl ?_
  refine Wp.b rfl (fun (c : m &&& 1 = 0) => ?_) (fun (c : ¬ m &&& 1 = 0) => ?_)
  · iterate 1 refine Wp.p rfl ?_
    exact k11 0 (if_neg (fun z => z c)).symm
  · iterate 2 refine Wp.p rfl ?_
    exact k11 2 (if_pos c).symm
-- copies
theorem kne2 {i j : Nat} (hi : i < 2 ^ 31) (hj : j < 2 ^ 31) (h : ¬ i = j) : ¬ nI i = nI j := fun z => h (by
  have := congrArg tn z
  rw [tn_nI hi, tn_nI hj] at this
  exact this)
def cpy (i j : Nat) : Bool := decide (i = j ∨ 6 < i ∧ 6 < j)
theorem s_m_cps_it {d i j : Nat} {S : mS} {Q : mQ} {x y f : Int32} (hi : i < 10) (hj : j < 10)
    (h : Wp d n_X6_copies 13 [(4, .int (nI (j + 1))), (2, .int (f ||| (if (hb x i && hb y j && cpy i j) = true then 1 <<< (nI i &&& 31) else 0))), (3, .int (nI i)), (0, .int x), (1, .int y)] [] S Q) : Wp d n_X6_copies 13 [(4, .int (nI j)), (2, .int f), (3, .int (nI i)), (0, .int x), (1, .int y)] [] S Q := by
  rw [← nI_1] at h
  have fin1 : (hb x i && hb y j && cpy i j) = true → Wp d n_X6_copies 58 [(4, .int (nI j)), (2, .int f), (3, .int (nI i)), (0, .int x), (1, .int y)] [] S Q := fun c => by
    rw [if_pos c] at h
    iterate 5 refine Wp.p rfl ?_
    refine Wp.bF rfl (by decide) ?_
    iterate 8 refine Wp.p rfl ?_
    exact h.sub (lS.mk rfl rfl (by repeat (first | exact lSub.nil | refine lSub.cons rfl ?_)))
  have fin0 : ¬ (hb x i && hb y j && cpy i j) = true → Wp d n_X6_copies 62 [(4, .int (nI j)), (2, .int f), (3, .int (nI i)), (0, .int x), (1, .int y)] [] S Q := fun c => by
    rw [if_neg c] at h
    iterate 4 refine Wp.p rfl ?_
    refine Wp.bT rfl (by decide) ?_
    iterate 5 refine Wp.p rfl ?_
    exact h.sub (lS.mk rfl rfl (by repeat (first | exact lSub.nil | refine lSub.cons rfl ?_)))
  iterate 2 refine Wp.p rfl ?_
  refine Wp.b rfl (fun (c : (10 : Int32) ≤ nI j) => absurd c (nI_ge (b := 10) hj (by decide))) (fun _ => ?_)
  iterate 6 refine Wp.p rfl ?_
  refine Wp.b rfl (fun (c : ¬ (x >>> (nI i &&& 31)) &&& 1 = 1) => ?_) (fun (c : ¬ ¬ (x >>> (nI i &&& 31)) &&& 1 = 1) => ?_)
  · rw [sr1 (by omega)] at c
    exact fin0 (fun z => c (if_pos (by cases e : hb x i <;> rw [e] at z <;> first | rfl | cases z)))
  have cx : hb x i = true := by
    rw [sr1 (by omega)] at c
    cases e : hb x i with
    | true => rfl
    | false => rw [e] at c; exact absurd (by decide) c
  iterate 6 refine Wp.p rfl ?_
  refine Wp.b rfl (fun (c : ¬ (y >>> (nI j &&& 31)) &&& 1 = 1) => ?_) (fun (c : ¬ ¬ (y >>> (nI j &&& 31)) &&& 1 = 1) => ?_)
  · rw [sr1 (by omega)] at c
    exact fin0 (fun z => c (if_pos (by cases e : hb y j <;> rw [e, cx] at z <;> first | rfl | cases z)))
  have cy : hb y j = true := by
    rw [sr1 (by omega)] at c
    cases e : hb y j with
    | true => rfl
    | false => rw [e] at c; exact absurd (by decide) c
  rw [cx, cy] at fin1 fin0
  have no : ¬ cpy i j = true → ¬ (true && true && cpy i j) = true := fun z => z
  iterate 2 refine Wp.p rfl ?_
  refine Wp.b rfl (fun (c : nI i = nI j) => ?_) (fun (c : ¬ nI i = nI j) => ?_)
  · have : i = j := by
      have := congrArg tn c
      rw [tn_nI (by omega), tn_nI (by omega)] at this
      exact this
    exact fin1 (decide_eq_true (Or.inl this))
  have nij : ¬ i = j := fun z => c (by rw [z])
  iterate 2 refine Wp.p rfl ?_
  refine Wp.b rfl (fun (c : nI i ≤ 6) => ?_) (fun (c : ¬ nI i ≤ 6) => ?_)
  · have l : i ≤ 6 := (nI_leI (b := 6) (by omega) (by decide)).mp c
    exact fin0 (fun z => by have := of_decide_eq_true (show cpy i j = true from z); omega)
  have gi : 6 < i := Nat.lt_of_not_le (fun z => c ((nI_leI (b := 6) (by omega) (by decide)).mpr z))
  iterate 2 refine Wp.p rfl ?_
  refine Wp.b rfl (fun (c : nI j ≤ 6) => ?_) (fun (c : ¬ nI j ≤ 6) => ?_)
  · have l : j ≤ 6 := (nI_leI (b := 6) (by omega) (by decide)).mp c
    exact fin0 (fun z => by have := of_decide_eq_true (show cpy i j = true from z); omega)
  have gj : 6 < j := Nat.lt_of_not_le (fun z => c ((nI_leI (b := 6) (by omega) (by decide)).mpr z))
  exact fin1 (decide_eq_true (Or.inr ⟨gi, gj⟩))
