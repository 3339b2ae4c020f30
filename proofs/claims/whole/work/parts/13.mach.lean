-- Machine: the small methods
theorem s_M_castFault {d : Nat} {S : mS} {Q : mQ} {r ty : Int32} (ht : vp_in ty 11) (hm : (S.1 5).toInt ≤ 40) (h0 : hB (m_sv 500 ty.toNatClampNeg ||| 1) (kOf S r) → Q (some (.int 0)) S) (h2 : ¬ hB (m_sv 500 ty.toNatClampNeg ||| 1) (kOf S r) → Q (some (.int 2)) S) : Ev (d + 1) n_X1_castFault [.ref 1, .int r, .int ty] S Q := by
  repeat refine Wp.p rfl ?_
  refine Wp.i rfl (s_H_kindOf hm ?_)
  repeat refine Wp.p rfl ?_
  refine Wp.g rfl ht ?_
  repeat refine Wp.p rfl ?_
  refine Wp.i rfl (s_holds (fun c => ?_) (fun c => ?_))
  · refine Wp.b rfl (fun (e : (1 : Int32) = 0) => absurd e (by decide)) (fun _ => ?_)
    repeat refine Wp.p rfl ?_
    exact Wp.r rfl trivial (h0 c)
  · refine Wp.b rfl (fun _ => ?_) (fun e => absurd rfl e)
    repeat refine Wp.p rfl ?_
    exact Wp.r rfl trivial (h2 c)
theorem s_M_useFault {d : Nat} {S : mS} {Q : mQ} {r ty : Int32} (ht : vp_in ty 11) (hm : (S.1 5).toInt ≤ 40) (h1 : kOf S r = 0 → Q (some (.int 1)) S) (h0 : ¬ kOf S r = 0 → hB (m_sv 500 ty.toNatClampNeg) (kOf S r) → Q (some (.int 0)) S) (h2 : ¬ kOf S r = 0 → ¬ hB (m_sv 500 ty.toNatClampNeg) (kOf S r) → Q (some (.int 2)) S) : Ev (d + 1) n_X1_useFault [.ref 1, .int r, .int ty] S Q := by
  repeat refine Wp.p rfl ?_
  refine Wp.i rfl (s_H_kindOf hm ?_)
  repeat refine Wp.p rfl ?_
  refine Wp.b rfl (fun c1 => ?_) (fun (c1 : ¬ ¬ kOf S r = 0) => ?_)
  · repeat refine Wp.p rfl ?_
    refine Wp.g rfl ht ?_
    repeat refine Wp.p rfl ?_
    refine Wp.i rfl (s_holds (fun c => ?_) (fun c => ?_))
    · refine Wp.b rfl (fun (e : (1 : Int32) = 0) => absurd e (by decide)) (fun _ => ?_)
      repeat refine Wp.p rfl ?_
      exact Wp.r rfl trivial (h0 c1 c)
    · refine Wp.b rfl (fun _ => ?_) (fun e => absurd rfl e)
      repeat refine Wp.p rfl ?_
      exact Wp.r rfl trivial (h2 c1 c)
  · repeat refine Wp.p rfl ?_
    exact Wp.r rfl trivial (h1 (Decidable.not_not.mp c1))
theorem s_M_cellFault {d : Nat} {S : mS} {Q : mQ} {r ty x : Int32} (ht : vp_in ty 11) (hm : (S.1 5).toInt ≤ 40) (hv : ¬ kOf S r = 0 → vp_in r 40) (h1 : kOf S r = 0 → Q (some (.int 1)) S) (h2 : ¬ kOf S r = 0 → ¬ hB (m_sv 500 ty.toNatClampNeg) (kOf S r) → Q (some (.int 2)) S) (h3 : ¬ kOf S r = 0 → hB (m_sv 500 ty.toNatClampNeg) (kOf S r) → ¬ (0 ≤ x ∧ x < S.2.2 101 r.toNatClampNeg) → Q (some (.int 3)) S) (h0 : ¬ kOf S r = 0 → hB (m_sv 500 ty.toNatClampNeg) (kOf S r) → 0 ≤ x → x < S.2.2 101 r.toNatClampNeg → Q (some (.int 0)) S) : Ev (d + 2) n_X1_cellFault [.ref 1, .int r, .int ty, .int x] S Q := by
  repeat refine Wp.p rfl ?_
  refine Wp.i rfl (s_M_useFault ht hm (fun c => ?_) (fun c1 c => ?_) (fun c1 c => ?_))
  · repeat refine Wp.p rfl ?_
    refine Wp.b rfl (fun (e : (1 : Int32) = 0) => absurd e (by decide)) (fun _ => ?_)
    repeat refine Wp.p rfl ?_
    exact Wp.r rfl trivial (h1 c)
  · repeat refine Wp.p rfl ?_
    refine Wp.b rfl (fun _ => ?_) (fun e => absurd rfl e)
    repeat refine Wp.p rfl ?_
    refine Wp.b rfl (fun (e : x < 0) => ?_) (fun (e : ¬ x < 0) => ?_)
    · repeat refine Wp.p rfl ?_
      exact Wp.r rfl trivial (h3 c1 c (fun q => Int32.not_lt.mpr q.1 e))
    · repeat refine Wp.p rfl ?_
      refine Wp.i rfl (s_H_lengthOf (hv c1) ?_)
      refine Wp.b rfl (fun (e2 : x < S.2.2 101 r.toNatClampNeg) => ?_) (fun (e2 : ¬ x < S.2.2 101 r.toNatClampNeg) => ?_)
      · repeat refine Wp.p rfl ?_
        exact Wp.r rfl trivial (h0 c1 c (Int32.not_lt.mp e) e2)
      · repeat refine Wp.p rfl ?_
        exact Wp.r rfl trivial (h3 c1 c (fun q => e2 q.2))
  · repeat refine Wp.p rfl ?_
    refine Wp.b rfl (fun (e : (2 : Int32) = 0) => absurd e (by decide)) (fun _ => ?_)
    repeat refine Wp.p rfl ?_
    exact Wp.r rfl trivial (h2 c1 c)
theorem s_M_jumpIf {d : Nat} {S : mS} {Q : mQ} {b x : Int32} (h1 : ¬ b = 0 → Q none (sF S 45 x)) (h0 : b = 0 → Q none S) : Ev d n_X1_jumpIf [.ref 1, .int b, .int x] S Q := by
  repeat refine Wp.p rfl ?_
  refine Wp.b rfl (fun c => ?_) (fun c => ?_)
  · exact Wp.r rfl trivial (h0 c)
  · repeat refine Wp.p rfl ?_
    exact Wp.r rfl trivial (h1 c)
theorem s_M_makeThing {d o : Nat} {S : mS} {Q : mQ} {v k : Int32} (hv : vp_in v 6) (ho : o ≤ 40) (hm : S.1 5 = nI o) (h8 : o = 40 → Q (some (.int 8)) S) (h0 : o < 40 → ∀ S', Fr [5] [143, 100, 101, 102, 103] S S' → S'.1 5 = nI (o + 1) → S'.2.2 143 = upd (S.2.2 143) v.toNatClampNeg (nI o) → S'.2.2 100 = upd (S.2.2 100) o k → S'.2.2 101 = upd (S.2.2 101) o 0 → S'.2.2 102 = upd (S.2.2 102) o (-1) → S'.2.2 103 = S.2.2 103 → Q (some (.int 0)) S') : Ev (d + 2) n_X1_makeThing [.ref 1, .int v, .int k] S Q := by
  repeat refine Wp.p rfl ?_
  refine Wp.i rfl (s_H_isFull ?_)
  by_cases hf : o = 40
  · refine Wp.b rfl (fun e => absurd (show (40 : Int32) ≤ S.1 5 by rw [hm, hf]; decide) (bI_0.mp e)) (fun _ => ?_)
    repeat refine Wp.p rfl ?_
    exact Wp.r rfl trivial (h8 hf)
  · have hlt : o < 40 := by omega
    refine Wp.b rfl (fun _ => ?_) (fun e => absurd (bI_0.mpr (show ¬ (40 : Int32) ≤ S.1 5 by rw [hm]; exact nI_ge (b := 40) hlt (by decide))) e)
    repeat refine Wp.p rfl ?_
    refine Wp.i rfl (s_H_make (len := 0) hlt (by omega) hm (fun S' hF f5 k0 l0 x0 c0 => ?_))
    refine Wp.g rfl hv ?_
    repeat refine Wp.p rfl ?_
    refine Wp.r rfl trivial (h0 hlt _ (Fr.a (hF.up (by decide) (by decide)) (by decide)) f5 ?_ ?_ ?_ ?_ ?_)
    · show upd (S'.2.2 143) _ _ = _
      rw [hF.2.2 143 (by decide)]
    · exact k0
    · exact l0
    · exact x0
    · exact c0
theorem s_M_makeArray {d o : Nat} {S : mS} {Q : mQ} {v k n : Int32} (hv : vp_in v 6) (ho : o ≤ 40) (hm : S.1 5 = nI o) (h5 : n < 0 → Q (some (.int 5)) S) (h8 : ¬ n < 0 → (20 < n ∨ o = 40) → Q (some (.int 8)) S) (h0 : ∀ len, len ≤ 20 → n = nI len → o < 40 → ∀ S', Fr [5] [143, 100, 101, 102, 103] S S' → S'.1 5 = nI (o + 1) → S'.2.2 143 = upd (S.2.2 143) v.toNatClampNeg (nI o) → S'.2.2 100 = upd (S.2.2 100) o k → S'.2.2 101 = upd (S.2.2 101) o (nI len) → S'.2.2 102 = upd (S.2.2 102) o (-1) → S'.2.2 103 = fillC (S.2.2 103) (20 * o) (if k = 9 then -2 else if k = 7 ∨ k = 8 then -1 else 0) len → Q (some (.int 0)) S') : Ev (d + 2) n_X1_makeArray [.ref 1, .int v, .int k, .int n] S Q := by
  repeat refine Wp.p rfl ?_
  refine Wp.b rfl (fun (c : 0 ≤ n) => ?_) (fun c => ?_)
  · have c' : ¬ n < 0 := Int32.not_lt.mpr c
    repeat refine Wp.p rfl ?_
    refine Wp.b rfl (fun (c2 : 20 < n) => ?_) (fun (c2 : ¬ 20 < n) => ?_)
    · repeat refine Wp.p rfl ?_
      exact Wp.r rfl trivial (h8 c' (Or.inl c2))
    · obtain ⟨len, hl, rfl⟩ := nI_of2 (M := 20) (n := 20) rfl c' (Int32.not_lt.mp c2)
      repeat refine Wp.p rfl ?_
      refine Wp.i rfl (s_H_isFull ?_)
      by_cases hf : o = 40
      · refine Wp.b rfl (fun e => absurd (show (40 : Int32) ≤ S.1 5 by rw [hm, hf]; decide) (bI_0.mp e)) (fun _ => ?_)
        repeat refine Wp.p rfl ?_
        exact Wp.r rfl trivial (h8 c' (Or.inr hf))
      · have hlt : o < 40 := by omega
        refine Wp.b rfl (fun _ => ?_) (fun e => absurd (bI_0.mpr (show ¬ (40 : Int32) ≤ S.1 5 by rw [hm]; exact nI_ge (b := 40) hlt (by decide))) e)
        repeat refine Wp.p rfl ?_
        refine Wp.i rfl (s_H_make hlt hl hm (fun S' hF f5 k0 l0 x0 c0 => ?_))
        refine Wp.g rfl hv ?_
        repeat refine Wp.p rfl ?_
        refine Wp.r rfl trivial (h0 len hl rfl hlt _ (Fr.a (hF.up (by decide) (by decide)) (by decide)) f5 ?_ ?_ ?_ ?_ ?_)
        · show upd (S'.2.2 143) _ _ = _
          rw [hF.2.2 143 (by decide)]
        · exact k0
        · exact l0
        · exact x0
        · exact c0
  · repeat refine Wp.p rfl ?_
    exact Wp.r rfl trivial (h5 (Int32.not_le.mp c))
