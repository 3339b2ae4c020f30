theorem t1v : m_sv 500 (1 : Int32).toNatClampNeg = 30 := by decide
theorem t5v : m_sv 500 (5 : Int32).toNatClampNeg = 20 := by decide
theorem t6v : m_sv 500 (6 : Int32).toNatClampNeg = 32 := by decide
theorem t8v : m_sv 500 (8 : Int32).toNatClampNeg = 384 := by decide
theorem i_in {x : Int32} {n : Nat} (h : 0 ≤ x.toInt ∧ x.toInt < n) : vp_in x n := vp_in_iff.mpr h
theorem s_M_castInto {d : Nat} {S : mS} {Q : mQ} {v r ty : Int32} (hv : vp_in v 6) (ht : vp_in ty 11) (hm : (S.1 5).toInt ≤ 40) (h2 : ¬ hB (m_sv 500 ty.toNatClampNeg ||| 1) (kOf S r) → Q (some (.int 2)) S) (h0 : hB (m_sv 500 ty.toNatClampNeg ||| 1) (kOf S r) → Q (some (.int 0)) (sA S 143 v.toNatClampNeg r)) : Ev (d + 2) n_X1_castInto [.ref 1, .int v, .int r, .int ty] S Q := by
  repeat refine Wp.p rfl ?_
  refine Wp.i rfl (s_M_castFault ht hm (fun c => ?_) (fun c => ?_))
  · repeat refine Wp.p rfl ?_
    refine Wp.b rfl (fun (e : ¬ (0 : Int32) = 0) => absurd rfl e) (fun _ => ?_)
    repeat refine Wp.p rfl ?_
    refine Wp.g rfl hv ?_
    repeat refine Wp.p rfl ?_
    exact Wp.r rfl trivial (h0 c)
  · repeat refine Wp.p rfl ?_
    refine Wp.b rfl (fun _ => ?_) (fun (e : ¬ ¬ (2 : Int32) = 0) => absurd (by decide) e)
    repeat refine Wp.p rfl ?_
    exact Wp.r rfl trivial (h2 c)
theorem s_M_getNext {d : Nat} {S : mS} {Q : mQ} {v r : Int32} (hv : vp_in v 6) (hm : (S.1 5).toInt ≤ 40) (hr : ¬ kOf S r = 0 → vp_in r 40) (h1 : kOf S r = 0 → Q (some (.int 1)) S) (h2 : ¬ kOf S r = 0 → ¬ hB 30 (kOf S r) → Q (some (.int 2)) S) (h0 : ¬ kOf S r = 0 → hB 30 (kOf S r) → Q (some (.int 0)) (sA S 143 v.toNatClampNeg (S.2.2 102 r.toNatClampNeg))) : Ev (d + 2) n_X1_getNext [.ref 1, .int v, .int r] S Q := by
  repeat refine Wp.p rfl ?_
  refine Wp.i rfl (s_M_useFault (by unfold vp_in; decide) hm (fun c => ?_) (fun c1 c => ?_) (fun c1 c => ?_))
  · repeat refine Wp.p rfl ?_
    refine Wp.b rfl (fun _ => ?_) (fun (e : ¬ ¬ (1 : Int32) = 0) => absurd (by decide) e)
    repeat refine Wp.p rfl ?_
    exact Wp.r rfl trivial (h1 c)
  · repeat refine Wp.p rfl ?_
    refine Wp.b rfl (fun (e : ¬ (0 : Int32) = 0) => absurd rfl e) (fun _ => ?_)
    repeat refine Wp.p rfl ?_
    refine Wp.i rfl (s_H_nextOf (hr c1) ?_)
    refine Wp.g rfl hv ?_
    repeat refine Wp.p rfl ?_
    exact Wp.r rfl trivial (h0 c1 (t1v ▸ c))
  · repeat refine Wp.p rfl ?_
    refine Wp.b rfl (fun _ => ?_) (fun (e : ¬ ¬ (2 : Int32) = 0) => absurd (by decide) e)
    repeat refine Wp.p rfl ?_
    exact Wp.r rfl trivial (h2 c1 (t1v ▸ c))
theorem s_M_setNext {d : Nat} {S : mS} {Q : mQ} {r x : Int32} (hm : (S.1 5).toInt ≤ 40) (hr : ¬ kOf S r = 0 → vp_in r 40) (h1 : kOf S r = 0 → Q (some (.int 1)) S) (h2 : ¬ kOf S r = 0 → ¬ hB 30 (kOf S r) → Q (some (.int 2)) S) (h0 : ¬ kOf S r = 0 → hB 30 (kOf S r) → Q (some (.int 0)) (sA S 102 r.toNatClampNeg x)) : Ev (d + 2) n_X1_setNext [.ref 1, .int r, .int x] S Q := by
  repeat refine Wp.p rfl ?_
  refine Wp.i rfl (s_M_useFault (by unfold vp_in; decide) hm (fun c => ?_) (fun c1 c => ?_) (fun c1 c => ?_))
  · repeat refine Wp.p rfl ?_
    refine Wp.b rfl (fun _ => ?_) (fun (e : ¬ ¬ (1 : Int32) = 0) => absurd (by decide) e)
    repeat refine Wp.p rfl ?_
    exact Wp.r rfl trivial (h1 c)
  · repeat refine Wp.p rfl ?_
    refine Wp.b rfl (fun (e : ¬ (0 : Int32) = 0) => absurd rfl e) (fun _ => ?_)
    repeat refine Wp.p rfl ?_
    refine Wp.i rfl (s_H_setNext (hr c1) ?_)
    repeat refine Wp.p rfl ?_
    exact Wp.r rfl trivial (h0 c1 (t1v ▸ c))
  · repeat refine Wp.p rfl ?_
    refine Wp.b rfl (fun _ => ?_) (fun (e : ¬ ¬ (2 : Int32) = 0) => absurd (by decide) e)
    repeat refine Wp.p rfl ?_
    exact Wp.r rfl trivial (h2 c1 (t1v ▸ c))
theorem s_M_getCell {d : Nat} {S : mS} {Q : mQ} {v r x : Int32} (hv : vp_in v 6) (hm : (S.1 5).toInt ≤ 40) (hr : ¬ kOf S r = 0 → vp_in r 40) (hc : ¬ kOf S r = 0 → 0 ≤ x → x < S.2.2 101 r.toNatClampNeg → vp_in (r * 20 + x) 800) (h1 : kOf S r = 0 → Q (some (.int 1)) S) (h2 : ¬ kOf S r = 0 → ¬ hB 384 (kOf S r) → Q (some (.int 2)) S) (h3 : ¬ kOf S r = 0 → hB 384 (kOf S r) → ¬ (0 ≤ x ∧ x < S.2.2 101 r.toNatClampNeg) → Q (some (.int 3)) S) (h0 : ¬ kOf S r = 0 → hB 384 (kOf S r) → 0 ≤ x → x < S.2.2 101 r.toNatClampNeg → Q (some (.int 0)) (sA S 143 v.toNatClampNeg (S.2.2 103 (r * 20 + x).toNatClampNeg))) : Ev (d + 3) n_X1_getCell [.ref 1, .int v, .int r, .int x] S Q := by
  repeat refine Wp.p rfl ?_
  refine Wp.i rfl (s_M_cellFault (by unfold vp_in; decide) hm hr (fun c => ?_) (fun c1 c => ?_) (fun c1 c c3 => ?_) (fun c1 c c3 c4 => ?_))
  · repeat refine Wp.p rfl ?_
    refine Wp.b rfl (fun _ => ?_) (fun (e : ¬ ¬ (1 : Int32) = 0) => absurd (by decide) e)
    repeat refine Wp.p rfl ?_
    exact Wp.r rfl trivial (h1 c)
  · repeat refine Wp.p rfl ?_
    refine Wp.b rfl (fun _ => ?_) (fun (e : ¬ ¬ (2 : Int32) = 0) => absurd (by decide) e)
    repeat refine Wp.p rfl ?_
    exact Wp.r rfl trivial (h2 c1 (t8v ▸ c))
  · repeat refine Wp.p rfl ?_
    refine Wp.b rfl (fun _ => ?_) (fun (e : ¬ ¬ (3 : Int32) = 0) => absurd (by decide) e)
    repeat refine Wp.p rfl ?_
    exact Wp.r rfl trivial (h3 c1 (t8v ▸ c) c3)
  · repeat refine Wp.p rfl ?_
    refine Wp.b rfl (fun (e : ¬ (0 : Int32) = 0) => absurd rfl e) (fun _ => ?_)
    repeat refine Wp.p rfl ?_
    refine Wp.i rfl (s_H_cell (hc c1 c3 c4) ?_)
    refine Wp.g rfl hv ?_
    repeat refine Wp.p rfl ?_
    exact Wp.r rfl trivial (h0 c1 (t8v ▸ c) c3 c4)
theorem s_M_getInt {d : Nat} {S : mS} {Q : mQ} {v r x : Int32} (hv : vp_in v 4) (hm : (S.1 5).toInt ≤ 40) (hr : ¬ kOf S r = 0 → vp_in r 40) (hc : ¬ kOf S r = 0 → 0 ≤ x → x < S.2.2 101 r.toNatClampNeg → vp_in (r * 20 + x) 800) (h1 : kOf S r = 0 → Q (some (.int 1)) S) (h2 : ¬ kOf S r = 0 → ¬ hB 32 (kOf S r) → Q (some (.int 2)) S) (h3 : ¬ kOf S r = 0 → hB 32 (kOf S r) → ¬ (0 ≤ x ∧ x < S.2.2 101 r.toNatClampNeg) → Q (some (.int 3)) S) (h0 : ¬ kOf S r = 0 → hB 32 (kOf S r) → 0 ≤ x → x < S.2.2 101 r.toNatClampNeg → Q (some (.int 0)) (sA S 144 v.toNatClampNeg (S.2.2 103 (r * 20 + x).toNatClampNeg))) : Ev (d + 3) n_X1_getInt [.ref 1, .int v, .int r, .int x] S Q := by
  repeat refine Wp.p rfl ?_
  refine Wp.i rfl (s_M_cellFault (by unfold vp_in; decide) hm hr (fun c => ?_) (fun c1 c => ?_) (fun c1 c c3 => ?_) (fun c1 c c3 c4 => ?_))
  · repeat refine Wp.p rfl ?_
    refine Wp.b rfl (fun _ => ?_) (fun (e : ¬ ¬ (1 : Int32) = 0) => absurd (by decide) e)
    repeat refine Wp.p rfl ?_
    exact Wp.r rfl trivial (h1 c)
  · repeat refine Wp.p rfl ?_
    refine Wp.b rfl (fun _ => ?_) (fun (e : ¬ ¬ (2 : Int32) = 0) => absurd (by decide) e)
    repeat refine Wp.p rfl ?_
    exact Wp.r rfl trivial (h2 c1 (t6v ▸ c))
  · repeat refine Wp.p rfl ?_
    refine Wp.b rfl (fun _ => ?_) (fun (e : ¬ ¬ (3 : Int32) = 0) => absurd (by decide) e)
    repeat refine Wp.p rfl ?_
    exact Wp.r rfl trivial (h3 c1 (t6v ▸ c) c3)
  · repeat refine Wp.p rfl ?_
    refine Wp.b rfl (fun (e : ¬ (0 : Int32) = 0) => absurd rfl e) (fun _ => ?_)
    repeat refine Wp.p rfl ?_
    refine Wp.i rfl (s_H_cell (hc c1 c3 c4) ?_)
    refine Wp.g rfl hv ?_
    repeat refine Wp.p rfl ?_
    exact Wp.r rfl trivial (h0 c1 (t6v ▸ c) c3 c4)
theorem s_M_setInt {d : Nat} {S : mS} {Q : mQ} {r x y : Int32} (hm : (S.1 5).toInt ≤ 40) (hr : ¬ kOf S r = 0 → vp_in r 40) (hc : ¬ kOf S r = 0 → 0 ≤ x → x < S.2.2 101 r.toNatClampNeg → vp_in (r * 20 + x) 800) (h1 : kOf S r = 0 → Q (some (.int 1)) S) (h2 : ¬ kOf S r = 0 → ¬ hB 32 (kOf S r) → Q (some (.int 2)) S) (h3 : ¬ kOf S r = 0 → hB 32 (kOf S r) → ¬ (0 ≤ x ∧ x < S.2.2 101 r.toNatClampNeg) → Q (some (.int 3)) S) (h0 : ¬ kOf S r = 0 → hB 32 (kOf S r) → 0 ≤ x → x < S.2.2 101 r.toNatClampNeg → Q (some (.int 0)) (sA S 103 (r * 20 + x).toNatClampNeg y)) : Ev (d + 3) n_X1_setInt [.ref 1, .int r, .int x, .int y] S Q := by
  repeat refine Wp.p rfl ?_
  refine Wp.i rfl (s_M_cellFault (by unfold vp_in; decide) hm hr (fun c => ?_) (fun c1 c => ?_) (fun c1 c c3 => ?_) (fun c1 c c3 c4 => ?_))
  · repeat refine Wp.p rfl ?_
    refine Wp.b rfl (fun _ => ?_) (fun (e : ¬ ¬ (1 : Int32) = 0) => absurd (by decide) e)
    repeat refine Wp.p rfl ?_
    exact Wp.r rfl trivial (h1 c)
  · repeat refine Wp.p rfl ?_
    refine Wp.b rfl (fun _ => ?_) (fun (e : ¬ ¬ (2 : Int32) = 0) => absurd (by decide) e)
    repeat refine Wp.p rfl ?_
    exact Wp.r rfl trivial (h2 c1 (t6v ▸ c))
  · repeat refine Wp.p rfl ?_
    refine Wp.b rfl (fun _ => ?_) (fun (e : ¬ ¬ (3 : Int32) = 0) => absurd (by decide) e)
    repeat refine Wp.p rfl ?_
    exact Wp.r rfl trivial (h3 c1 (t6v ▸ c) c3)
  · repeat refine Wp.p rfl ?_
    refine Wp.b rfl (fun (e : ¬ (0 : Int32) = 0) => absurd rfl e) (fun _ => ?_)
    repeat refine Wp.p rfl ?_
    refine Wp.i rfl (s_H_setCell (hc c1 c3 c4) ?_)
    repeat refine Wp.p rfl ?_
    exact Wp.r rfl trivial (h0 c1 (t6v ▸ c) c3 c4)
theorem s_M_getLength {d : Nat} {S : mS} {Q : mQ} {v r : Int32} (hv : vp_in v 4) (hm : (S.1 5).toInt ≤ 40) (hr : ¬ kOf S r = 0 → vp_in r 40) (h1 : kOf S r = 0 → Q (some (.int 1)) S) (h2 : ¬ kOf S r = 0 → ¬ hB 992 (kOf S r) → Q (some (.int 2)) S) (h0 : ¬ kOf S r = 0 → hB 992 (kOf S r) → Q (some (.int 0)) (sA S 144 v.toNatClampNeg (S.2.2 101 r.toNatClampNeg))) : Ev (d + 1) n_X1_getLength [.ref 1, .int v, .int r] S Q := by
  repeat refine Wp.p rfl ?_
  refine Wp.i rfl (s_H_kindOf hm ?_)
  repeat refine Wp.p rfl ?_
  refine Wp.b rfl (fun (c : ¬ kOf S r = 0) => ?_) (fun (c : ¬ ¬ kOf S r = 0) => ?_)
  · repeat refine Wp.p rfl ?_
    refine Wp.i rfl (s_holds (fun c2 => ?_) (fun c2 => ?_))
    · refine Wp.b rfl (fun _ => ?_) (fun (e : ¬ ¬ (1 : Int32) = 0) => absurd (by decide) e)
      repeat refine Wp.p rfl ?_
      refine Wp.i rfl (s_H_lengthOf (hr c) ?_)
      refine Wp.g rfl hv ?_
      repeat refine Wp.p rfl ?_
      exact Wp.r rfl trivial (h0 c c2)
    · refine Wp.b rfl (fun (e : ¬ (0 : Int32) = 0) => absurd rfl e) (fun _ => ?_)
      repeat refine Wp.p rfl ?_
      exact Wp.r rfl trivial (h2 c c2)
  · repeat refine Wp.p rfl ?_
    exact Wp.r rfl trivial (h1 (Decidable.not_not.mp c))
theorem s_M_divide {d : Nat} {S : mS} {Q : mQ} {v y : Int32} (hv : vp_in v 4) (h6 : y = 0 → Q (some (.int 6)) S) (h0 : ¬ y = 0 → Q (some (.int 0)) (sA S 144 v.toNatClampNeg (S.2.2 144 v.toNatClampNeg / y))) : Ev d n_X1_divide [.ref 1, .int v, .int y] S Q := by
  repeat refine Wp.p rfl ?_
  refine Wp.b rfl (fun (c : ¬ y = 0) => ?_) (fun (c : ¬ ¬ y = 0) => ?_)
  · repeat refine Wp.p rfl ?_
    refine Wp.g rfl hv ?_
    repeat refine Wp.p rfl ?_
    refine Wp.g rfl c ?_
    refine Wp.g rfl hv ?_
    repeat refine Wp.p rfl ?_
    exact Wp.r rfl trivial (h0 c)
  · repeat refine Wp.p rfl ?_
    exact Wp.r rfl trivial (h6 (Decidable.not_not.mp c))
theorem s_M_askFace {d : Nat} {S : mS} {Q : mQ} {v r z : Int32} (hz : z = 0 ∨ z = 1) (hv : vp_in v 4) (hm : (S.1 5).toInt ≤ 40) (h1 : kOf S r = 0 → Q (some (.int 1)) S) (h2 : ¬ kOf S r = 0 → ¬ hB 20 (kOf S r) → Q (some (.int 2)) S) (h0 : ¬ kOf S r = 0 → hB 20 (kOf S r) → Q (some (.int 0)) (sA S 144 v.toNatClampNeg (if z = 0 then (if kOf S r = 2 then 100 else 200) + r else 2 * ((if kOf S r = 2 then 100 else 200) + r) + (if kOf S r = 2 then 0 else 1)))) : Ev (d + 2) n_X1_askFace [.ref 1, .int v, .int r, .int z] S Q := by
  repeat refine Wp.p rfl ?_
  refine Wp.i rfl (s_M_useFault (by unfold vp_in; decide) hm (fun c => ?_) (fun c1 c => ?_) (fun c1 c => ?_))
  · repeat refine Wp.p rfl ?_
    refine Wp.b rfl (fun _ => ?_) (fun (e : ¬ ¬ (1 : Int32) = 0) => absurd (by decide) e)
    repeat refine Wp.p rfl ?_
    exact Wp.r rfl trivial (h1 c)
  · have h0' := h0 c1 (t5v ▸ c)
    repeat refine Wp.p rfl ?_
    refine Wp.b rfl (fun (e : ¬ (0 : Int32) = 0) => absurd rfl e) (fun _ => ?_)
    repeat refine Wp.p rfl ?_
    refine Wp.i rfl (s_H_kindOf hm ?_)
    repeat refine Wp.p rfl ?_
    refine Wp.b rfl (fun (e : ¬ kOf S r = 2) => ?_) (fun (e : ¬ ¬ kOf S r = 2) => ?_)
    · rw [if_neg e, if_neg e] at h0'
      repeat refine Wp.p rfl ?_
      refine Wp.b rfl (fun _ => ?_) (fun (e : ¬ (0 : Int32) = 0) => absurd rfl e)
      repeat refine Wp.p rfl ?_
      refine Wp.b rfl (fun _ => ?_) (fun (e : ¬ (0 : Int32) = 0) => absurd rfl e)
      repeat refine Wp.p rfl ?_
      refine Wp.b rfl (fun (e2 : z = 0) => ?_) (fun (e2 : ¬ z = 0) => ?_)
      · rw [if_pos e2] at h0'
        repeat refine Wp.p rfl ?_
        refine Wp.g rfl hv ?_
        repeat refine Wp.p rfl ?_
        exact Wp.r rfl trivial h0'
      · rw [if_neg e2] at h0'
        repeat refine Wp.p rfl ?_
        refine Wp.g rfl hv ?_
        repeat refine Wp.p rfl ?_
        exact Wp.r rfl trivial h0'
    · have e' := Decidable.not_not.mp e
      rw [if_pos e', if_pos e'] at h0'
      repeat refine Wp.p rfl ?_
      refine Wp.b rfl (fun (e : (1 : Int32) = 0) => absurd e (by decide)) (fun _ => ?_)
      repeat refine Wp.p rfl ?_
      refine Wp.b rfl (fun (e : (1 : Int32) = 0) => absurd e (by decide)) (fun _ => ?_)
      repeat refine Wp.p rfl ?_
      refine Wp.b rfl (fun (e2 : z = 0) => ?_) (fun (e2 : ¬ z = 0) => ?_)
      · rw [if_pos e2] at h0'
        repeat refine Wp.p rfl ?_
        refine Wp.g rfl hv ?_
        repeat refine Wp.p rfl ?_
        exact Wp.r rfl trivial h0'
      · rw [if_neg e2] at h0'
        repeat refine Wp.p rfl ?_
        refine Wp.g rfl hv ?_
        repeat refine Wp.p rfl ?_
        exact Wp.r rfl trivial h0'
  · repeat refine Wp.p rfl ?_
    refine Wp.b rfl (fun _ => ?_) (fun (e : ¬ ¬ (2 : Int32) = 0) => absurd (by decide) e)
    repeat refine Wp.p rfl ?_
    exact Wp.r rfl trivial (h2 c1 (t5v ▸ c))
theorem t8w : m_sv 500 (8 : Int32).toNatClampNeg ||| 1 = 385 := by decide
theorem t1w : m_sv 500 (1 : Int32).toNatClampNeg ||| 1 = 31 := by decide
theorem s_M_setCell {d : Nat} {S : mS} {Q : mQ} {r x y : Int32} (hm : (S.1 5).toInt ≤ 40) (hr : ¬ kOf S r = 0 → vp_in r 40) (hk : ¬ kOf S r = 0 → vp_in (S.2.2 100 r.toNatClampNeg) 10) (hc : ¬ kOf S r = 0 → 0 ≤ x → x < S.2.2 101 r.toNatClampNeg → vp_in (r * 20 + x) 800)
    (h2 : ¬ hB 385 (kOf S r) ∨ ¬ hB 31 (kOf S y) ∨ (¬ kOf S r = 0 ∧ ¬ hB 384 (kOf S r)) → Q (some (.int 2)) S) (h1 : hB 385 (kOf S r) → hB 31 (kOf S y) → kOf S r = 0 → Q (some (.int 1)) S) (h3 : hB 31 (kOf S y) → ¬ kOf S r = 0 → hB 384 (kOf S r) → ¬ (0 ≤ x ∧ x < S.2.2 101 r.toNatClampNeg) → Q (some (.int 3)) S)
    (h4 : hB 31 (kOf S y) → ¬ kOf S r = 0 → hB 384 (kOf S r) → 0 ≤ x → x < S.2.2 101 r.toNatClampNeg → ¬ hB (m_sv 501 (S.2.2 100 r.toNatClampNeg).toNatClampNeg) (kOf S y) → Q (some (.int 4)) S)
    (h0 : hB 31 (kOf S y) → ¬ kOf S r = 0 → hB 384 (kOf S r) → 0 ≤ x → x < S.2.2 101 r.toNatClampNeg → hB (m_sv 501 (S.2.2 100 r.toNatClampNeg).toNatClampNeg) (kOf S y) → Q (some (.int 0)) (sA S 103 (r * 20 + x).toNatClampNeg y)) : Ev (d + 3) n_X1_setCell [.ref 1, .int r, .int x, .int y] S Q := by
  repeat refine Wp.p rfl ?_
  refine Wp.i rfl (s_M_castFault (by unfold vp_in; decide) hm (fun c => ?_) (fun c => ?_))
  · have c := t8w ▸ c
    repeat refine Wp.p rfl ?_
    refine Wp.b rfl (fun (e : ¬ (0 : Int32) = 0) => absurd rfl e) (fun _ => ?_)
    repeat refine Wp.p rfl ?_
    refine Wp.i rfl (s_M_castFault (by unfold vp_in; decide) hm (fun c2 => ?_) (fun c2 => ?_))
    · have c2 := t1w ▸ c2
      repeat refine Wp.p rfl ?_
      refine Wp.b rfl (fun (e : ¬ (0 : Int32) = 0) => absurd rfl e) (fun _ => ?_)
      repeat refine Wp.p rfl ?_
      refine Wp.i rfl (s_M_cellFault (by unfold vp_in; decide) hm hr (fun c5 => ?_) (fun c1 c5 => ?_) (fun c1 c5 c3 => ?_) (fun c1 c5 c3 c4 => ?_))
      · repeat refine Wp.p rfl ?_
        refine Wp.b rfl (fun _ => ?_) (fun (e : ¬ ¬ (1 : Int32) = 0) => absurd (by decide) e)
        repeat refine Wp.p rfl ?_
        refine Wp.b rfl (fun _ => ?_) (fun (e : ¬ ¬ (1 : Int32) = 0) => absurd (by decide) e)
        repeat refine Wp.p rfl ?_
        exact Wp.r rfl trivial (h1 c c2 c5)
      · repeat refine Wp.p rfl ?_
        refine Wp.b rfl (fun _ => ?_) (fun (e : ¬ ¬ (2 : Int32) = 0) => absurd (by decide) e)
        repeat refine Wp.p rfl ?_
        refine Wp.b rfl (fun _ => ?_) (fun (e : ¬ ¬ (2 : Int32) = 0) => absurd (by decide) e)
        repeat refine Wp.p rfl ?_
        exact Wp.r rfl trivial (h2 (Or.inr (Or.inr ⟨c1, t8v ▸ c5⟩)))
      · repeat refine Wp.p rfl ?_
        refine Wp.b rfl (fun _ => ?_) (fun (e : ¬ ¬ (3 : Int32) = 0) => absurd (by decide) e)
        repeat refine Wp.p rfl ?_
        refine Wp.b rfl (fun _ => ?_) (fun (e : ¬ ¬ (3 : Int32) = 0) => absurd (by decide) e)
        repeat refine Wp.p rfl ?_
        exact Wp.r rfl trivial (h3 c2 c1 (t8v ▸ c5) c3)
      · have c5 := t8v ▸ c5
        repeat refine Wp.p rfl ?_
        refine Wp.b rfl (fun (e : ¬ (0 : Int32) = 0) => absurd rfl e) (fun _ => ?_)
        repeat refine Wp.p rfl ?_
        refine Wp.i rfl (s_H_takes (hr c1) hm (hk c1) (fun c6 => ?_) (fun c6 => ?_))
        · refine Wp.b rfl (fun _ => ?_) (fun (e : ¬ ¬ (1 : Int32) = 0) => absurd (by decide) e)
          repeat refine Wp.p rfl ?_
          refine Wp.b rfl (fun (e : ¬ (0 : Int32) = 0) => absurd rfl e) (fun _ => ?_)
          repeat refine Wp.p rfl ?_
          refine Wp.i rfl (s_H_setCell (hc c1 c3 c4) ?_)
          repeat refine Wp.p rfl ?_
          exact Wp.r rfl trivial (h0 c2 c1 c5 c3 c4 c6)
        · refine Wp.b rfl (fun (e : ¬ (0 : Int32) = 0) => absurd rfl e) (fun _ => ?_)
          repeat refine Wp.p rfl ?_
          refine Wp.b rfl (fun _ => ?_) (fun (e : ¬ ¬ (4 : Int32) = 0) => absurd (by decide) e)
          repeat refine Wp.p rfl ?_
          exact Wp.r rfl trivial (h4 c2 c1 c5 c3 c4 c6)
    · repeat refine Wp.p rfl ?_
      refine Wp.b rfl (fun _ => ?_) (fun (e : ¬ ¬ (2 : Int32) = 0) => absurd (by decide) e)
      repeat refine Wp.p rfl ?_
      refine Wp.b rfl (fun _ => ?_) (fun (e : ¬ ¬ (2 : Int32) = 0) => absurd (by decide) e)
      repeat refine Wp.p rfl ?_
      refine Wp.b rfl (fun _ => ?_) (fun (e : ¬ ¬ (2 : Int32) = 0) => absurd (by decide) e)
      repeat refine Wp.p rfl ?_
      exact Wp.r rfl trivial (h2 (Or.inr (Or.inl (t1w ▸ c2))))
  · repeat refine Wp.p rfl ?_
    refine Wp.b rfl (fun _ => ?_) (fun (e : ¬ ¬ (2 : Int32) = 0) => absurd (by decide) e)
    repeat refine Wp.p rfl ?_
    refine Wp.b rfl (fun _ => ?_) (fun (e : ¬ ¬ (2 : Int32) = 0) => absurd (by decide) e)
    repeat refine Wp.p rfl ?_
    refine Wp.b rfl (fun _ => ?_) (fun (e : ¬ ¬ (2 : Int32) = 0) => absurd (by decide) e)
    repeat refine Wp.p rfl ?_
    refine Wp.b rfl (fun _ => ?_) (fun (e : ¬ ¬ (2 : Int32) = 0) => absurd (by decide) e)
    repeat refine Wp.p rfl ?_
    exact Wp.r rfl trivial (h2 (Or.inl (t8w ▸ c)))
