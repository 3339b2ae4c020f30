/-- all but these int fields and these arrays stays -/
def Fr (fs as : List Nat) (S S' : mS) : Prop := (∀ q, q ∉ fs → S'.1 q = S.1 q) ∧ S'.2.1 = S.2.1 ∧ ∀ a, a ∉ as → S'.2.2 a = S.2.2 a
theorem Fr.rf {fs as : List Nat} {S : mS} : Fr fs as S S := ⟨fun _ _ => rfl, rfl, fun _ _ => rfl⟩
theorem Fr.tr {fs as : List Nat} {S S' S'' : mS} (h : Fr fs as S S') (h2 : Fr fs as S' S'') : Fr fs as S S'' := ⟨fun q hq => (h2.1 q hq).trans (h.1 q hq), h2.2.1.trans h.2.1, fun a ha => (h2.2.2 a ha).trans (h.2.2 a ha)⟩
theorem Fr.up {fs as fs' as' : List Nat} {S S' : mS} (h : Fr fs as S S') (h1 : ∀ q ∈ fs, q ∈ fs') (h2 : ∀ q ∈ as, q ∈ as') : Fr fs' as' S S' := ⟨fun q hq => h.1 q (fun z => hq (h1 q z)), h.2.1, fun a ha => h.2.2 a (fun z => ha (h2 a z))⟩
theorem Fr.f {fs as : List Nat} {S S' : mS} {q : Nat} {x : Int32} (h : Fr fs as S S') (hq : q ∈ fs) : Fr fs as S (sF S' q x) := ⟨fun z hz => by
  show upd S'.1 q x z = S.1 z
  rw [show upd S'.1 q x z = S'.1 z from if_neg (fun e : z = q => hz (by rw [e]; exact hq))]
  exact h.1 z hz, h.2.1, h.2.2⟩
theorem Fr.a {fs as : List Nat} {S S' : mS} {a n : Nat} {x : Int32} (h : Fr fs as S S') (ha : a ∈ as) : Fr fs as S (sA S' a n x) := ⟨h.1, h.2.1, fun z hz => by
  show va_up S'.2.2 a _ z = S.2.2 z
  rw [show va_up S'.2.2 a (upd (S'.2.2 a) n x) z = S'.2.2 z from if_neg (fun e : z = a => hz (by rw [e]; exact ha))]
  exact h.2.2 z hz⟩
/-- the kind of a reference, as the class tells it -/
def kOf (S : mS) (r : Int32) : Int32 := if 0 ≤ r ∧ r < S.1 5 then S.2.2 100 r.toNatClampNeg else if r = -2 then 5 else 0
theorem s_H_empty {d : Nat} {S : mS} {Q : mQ} (h : Q none (sF S 5 0)) : Ev d n_X0_empty [.ref 0] S Q := by
  repeat refine Wp.p rfl ?_
  exact Wp.r rfl trivial h
theorem s_H_size {d : Nat} {S : mS} {Q : mQ} (h : Q (some (.int (S.1 5))) S) : Ev d n_X0_size [.ref 0] S Q := by
  repeat refine Wp.p rfl ?_
  exact Wp.r rfl trivial h
theorem s_H_isFull {d : Nat} {S : mS} {Q : mQ} (h : Q (some (.int (bI (40 ≤ S.1 5)))) S) : Ev d n_X0_isFull [.ref 0] S Q := by
  repeat refine Wp.p rfl ?_
  refine Wp.b rfl (fun c => ?_) (fun c => ?_)
  · rw [bI_f (Int32.not_le.mpr c)] at h
    repeat refine Wp.p rfl ?_
    exact Wp.r rfl (Or.inl rfl) h
  · rw [bI_t (Int32.not_lt.mp c)] at h
    repeat refine Wp.p rfl ?_
    exact Wp.r rfl (Or.inr rfl) h
theorem s_H_firstCell {d : Nat} {S : mS} {Q : mQ} {k : Int32} (h : Q (some (.int (if k = 9 then -2 else if k = 7 ∨ k = 8 then -1 else 0))) S) : Ev d n_X0_firstCell [.int k] S Q := by
  repeat refine Wp.p rfl ?_
  refine Wp.b rfl (fun c => ?_) (fun c => ?_)
  · rw [if_neg c] at h
    repeat refine Wp.p rfl ?_
    refine Wp.b rfl (fun (c7 : k = 7) => ?_) (fun (c7 : ¬ k = 7) => ?_)
    · rw [if_pos (Or.inl c7)] at h
      repeat refine Wp.p rfl ?_
      exact Wp.r rfl trivial h
    · repeat refine Wp.p rfl ?_
      refine Wp.b rfl (fun (c8 : ¬ k = 8) => ?_) (fun (c8 : ¬ ¬ k = 8) => ?_)
      · rw [if_neg (fun q => q.elim c7 c8)] at h
        repeat refine Wp.p rfl ?_
        exact Wp.r rfl trivial h
      · rw [if_pos (Or.inr (Decidable.not_not.mp c8))] at h
        repeat refine Wp.p rfl ?_
        exact Wp.r rfl trivial h
  · rw [if_pos (Decidable.not_not.mp c)] at h
    repeat refine Wp.p rfl ?_
    exact Wp.r rfl trivial h
theorem vp_in_of2 {x y : Int32} {n : Nat} (h0 : 0 ≤ x) (h1 : x < y) (hy : y.toInt ≤ n) : vp_in x n := by
  rw [vp_in_iff]
  have a := Int32.le_iff_toInt_le.mp h0
  have b := Int32.lt_iff_toInt_lt.mp h1
  rw [Int32.toInt_zero] at a
  omega
theorem s_H_kindOf {d : Nat} {S : mS} {Q : mQ} {r : Int32} (hm : (S.1 5).toInt ≤ 40) (h : Q (some (.int (kOf S r))) S) : Ev d n_X0_kindOf [.ref 0, .int r] S Q := by
  unfold kOf at h
  repeat refine Wp.p rfl ?_
  refine Wp.b rfl (fun c => ?_) (fun c => ?_)
  · rw [if_neg (fun q => Int32.not_lt.mpr q.1 c)] at h
    repeat refine Wp.p rfl ?_
    refine Wp.b rfl (fun c2 => ?_) (fun c2 => ?_)
    · rw [if_neg c2] at h
      repeat refine Wp.p rfl ?_
      exact Wp.r rfl trivial h
    · rw [if_pos (Decidable.not_not.mp c2)] at h
      repeat refine Wp.p rfl ?_
      exact Wp.r rfl trivial h
  · repeat refine Wp.p rfl ?_
    refine Wp.b rfl (fun c1 => ?_) (fun c1 => ?_)
    · rw [if_neg (fun q => Int32.not_le.mpr q.2 c1)] at h
      repeat refine Wp.p rfl ?_
      refine Wp.b rfl (fun c2 => ?_) (fun c2 => ?_)
      · rw [if_neg c2] at h
        repeat refine Wp.p rfl ?_
        exact Wp.r rfl trivial h
      · rw [if_pos (Decidable.not_not.mp c2)] at h
        repeat refine Wp.p rfl ?_
        exact Wp.r rfl trivial h
    · have c' := Int32.not_lt.mp c
      have c1' := Int32.not_le.mp c1
      rw [if_pos ⟨c', c1'⟩] at h
      repeat refine Wp.p rfl ?_
      refine Wp.g rfl (vp_in_of2 c' c1' hm) ?_
      exact Wp.r rfl trivial h
theorem s_H_lengthOf {d : Nat} {S : mS} {Q : mQ} {r : Int32} (hi : vp_in r 40) (h : Q (some (.int (S.2.2 101 r.toNatClampNeg))) S) : Ev d n_X0_lengthOf [.ref 0, .int r] S Q := by
  repeat refine Wp.p rfl ?_
  refine Wp.g rfl hi ?_
  exact Wp.r rfl trivial h
theorem s_H_nextOf {d : Nat} {S : mS} {Q : mQ} {r : Int32} (hi : vp_in r 40) (h : Q (some (.int (S.2.2 102 r.toNatClampNeg))) S) : Ev d n_X0_nextOf [.ref 0, .int r] S Q := by
  repeat refine Wp.p rfl ?_
  refine Wp.g rfl hi ?_
  exact Wp.r rfl trivial h
theorem s_H_setNext {d : Nat} {S : mS} {Q : mQ} {r x : Int32} (hi : vp_in r 40) (h : Q none (sA S 102 r.toNatClampNeg x)) : Ev d n_X0_setNext [.ref 0, .int r, .int x] S Q := by
  repeat refine Wp.p rfl ?_
  refine Wp.g rfl hi ?_
  exact Wp.r rfl trivial h
theorem s_H_cell {d : Nat} {S : mS} {Q : mQ} {r x : Int32} (hi : vp_in (r * 20 + x) 800) (h : Q (some (.int (S.2.2 103 (r * 20 + x).toNatClampNeg))) S) : Ev d n_X0_cell [.ref 0, .int r, .int x] S Q := by
  repeat refine Wp.p rfl ?_
  refine Wp.g rfl hi ?_
  exact Wp.r rfl trivial h
theorem s_H_setCell {d : Nat} {S : mS} {Q : mQ} {r x v : Int32} (hi : vp_in (r * 20 + x) 800) (h : Q none (sA S 103 (r * 20 + x).toNatClampNeg v)) : Ev d n_X0_setCell [.ref 0, .int r, .int x, .int v] S Q := by
  repeat refine Wp.p rfl ?_
  refine Wp.g rfl hi ?_
  exact Wp.r rfl trivial h
theorem s_H_takes {d : Nat} {S : mS} {Q : mQ} {r x : Int32} (hi : vp_in r 40) (hm : (S.1 5).toInt ≤ 40) (hk : vp_in (S.2.2 100 r.toNatClampNeg) 10) (h1 : hB (m_sv 501 (S.2.2 100 r.toNatClampNeg).toNatClampNeg) (kOf S x) → Q (some (.int 1)) S) (h0 : ¬ hB (m_sv 501 (S.2.2 100 r.toNatClampNeg).toNatClampNeg) (kOf S x) → Q (some (.int 0)) S) : Ev (d + 1) n_X0_takes [.ref 0, .int r, .int x] S Q := by
  repeat refine Wp.p rfl ?_
  refine Wp.g rfl hi ?_
  refine Wp.g rfl hk ?_
  repeat refine Wp.p rfl ?_
  refine Wp.i rfl (s_H_kindOf hm ?_)
  refine Wp.i rfl (s_holds (fun c => ?_) (fun c => ?_))
  · exact Wp.r rfl (Or.inr rfl) (h1 c)
  · exact Wp.r rfl (Or.inl rfl) (h0 c)
/-- what a loop has laid into the cells -/
def fillC (f : Nat → Int32) (lo : Nat) (x : Int32) : Nat → Nat → Int32
  | 0 => f
  | n + 1 => upd (fillC f lo x n) (lo + n) x
theorem s_H_make_loop {d : Nat} {Q : mQ} {o len : Nat} {ki fc : Int32} (ho : o < 40) (hlen : len ≤ 20) (S0 : mS) (hQ : ∀ S', Fr [] [103] S0 S' → S'.2.2 103 = fillC (S0.2.2 103) (20 * o) fc len → Q (some (.int (nI o))) S') : ∀ (n j : Nat) (S : mS), j + n = len → Fr [] [103] S0 S → S.2.2 103 = fillC (S0.2.2 103) (20 * o) fc j →
    Wp (d + 1) n_X0_make 45 [(5, .int (nI j)), (4, .int fc), (3, .int (nI o)), (0, .ref 0), (1, .int ki), (2, .int (nI len))] [] S Q := by
  intro n
  induction n with
  | zero =>
    intro j S hj hF hC
    obtain rfl : j = len := by omega
    repeat refine Wp.p rfl ?_
    refine Wp.b rfl (fun c => ?_) (fun c => absurd (nI_le (Nat.le_refl _) (by omega)) c)
    repeat refine Wp.p rfl ?_
    exact Wp.r rfl trivial (hQ S hF hC)
  | succ n ih =>
    intro j S hj hF hC
    have hlt : j < len := by omega
    have hix : nI o * 20 + nI j = nI (20 * o + j) := by
      rw [show (20 : Int32) = nI 20 from rfl, pk_mul, nI_add, Nat.mul_comm]
    repeat refine Wp.p rfl ?_
    refine Wp.b rfl (fun c => absurd c (nI_ge hlt (by omega))) (fun c => ?_)
    repeat refine Wp.p rfl ?_
    refine Wp.i rfl (s_H_setCell (by rw [hix]; exact vp_in_nI (by omega) (by omega)) ?_)
    iterate 2 refine Wp.p rfl ?_
    show Wp (d + 1) n_X0_make 45 [(5, .int (nI j + 1)), (4, .int fc), (3, .int (nI o)), (0, .ref 0), (1, .int ki), (2, .int (nI len))] [] _ Q
    rw [nI_1]
    refine ih (j + 1) _ (by omega) (hF.a (by decide)) ?_
    show upd (S.2.2 103) _ fc = _
    rw [hix, nI_clamp (by omega), hC]
    rfl
theorem s_H_make {d : Nat} {Q : mQ} {o len : Nat} {ki : Int32} {S : mS} (ho : o < 40) (hlen : len ≤ 20) (hm : S.1 5 = nI o) (hQ : ∀ S', Fr [5] [100, 101, 102, 103] S S' → S'.1 5 = nI (o + 1) → S'.2.2 100 = upd (S.2.2 100) o ki → S'.2.2 101 = upd (S.2.2 101) o (nI len) → S'.2.2 102 = upd (S.2.2 102) o (-1) → S'.2.2 103 = fillC (S.2.2 103) (20 * o) (if ki = 9 then -2 else if ki = 7 ∨ ki = 8 then -1 else 0) len → Q (some (.int (nI o))) S') : Ev (d + 1) n_X0_make [.ref 0, .int ki, .int (nI len)] S Q := by
  have hin : vp_in (S.1 5) 40 := by rw [hm]; exact vp_in_nI ho (by omega)
  have hcl : (S.1 5).toNatClampNeg = o := by rw [hm]; exact nI_clamp (by omega)
  repeat refine Wp.p rfl ?_
  refine Wp.g rfl hin ?_
  repeat refine Wp.p rfl ?_
  refine Wp.g rfl hin ?_
  repeat refine Wp.p rfl ?_
  refine Wp.g rfl hin ?_
  repeat refine Wp.p rfl ?_
  refine Wp.i rfl (s_H_firstCell ?_)
  iterate 3 refine Wp.p rfl ?_
  have key := s_H_make_loop (d := d) (Q := Q) (ki := ki) (fc := if ki = 9 then -2 else if ki = 7 ∨ ki = 8 then -1 else 0) ho hlen (sF (sA (sA (sA S 100 (S.1 5).toNatClampNeg ki) 101 (S.1 5).toNatClampNeg (nI len)) 102 (S.1 5).toNatClampNeg (-1)) 5 (S.1 5 + 1)) (fun S' hF hC => by
    refine hQ S' ?_ ?_ ?_ ?_ ?_ hC
    · exact Fr.tr ((((Fr.rf.a (by decide)).a (by decide)).a (by decide)).f (by decide)) (hF.up (by decide) (by decide))
    · rw [hF.1 5 (by decide)]
      show S.1 5 + 1 = _
      rw [hm, nI_1]
    · rw [hF.2.2 100 (by decide), ← hcl]; rfl
    · rw [hF.2.2 101 (by decide), ← hcl]; rfl
    · rw [hF.2.2 102 (by decide), ← hcl]; rfl) len 0 _ (by omega) Fr.rf rfl
  rw [← hm] at key
  exact key
