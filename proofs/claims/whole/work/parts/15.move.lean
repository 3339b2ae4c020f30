def cpW (V C : Nat → Int32) (lo : Nat) : Nat → Nat → Int32
  | 0 => V
  | n + 1 => upd (cpW V C lo n) n (C (lo + n))
theorem cpW_at {V C : Nat → Int32} {lo : Nat} : ∀ {n j : Nat}, j < n → cpW V C lo n j = C (lo + j) := by
  intro n
  induction n with
  | zero => intro j h; omega
  | succ n ih =>
    intro j h
    show upd (cpW V C lo n) n (C (lo + n)) j = _
    by_cases e : j = n
    · rw [e]; exact if_pos rfl
    · rw [show upd (cpW V C lo n) n (C (lo + n)) j = cpW V C lo n j from if_neg e]
      exact ih (by omega)
def mvF (V : Nat → Int32) (ok : Int32 → Bool) (lo : Nat) : Nat → Nat → (Nat → Int32) → Int32 × (Nat → Int32)
  | 0, _, C => (0, C)
  | n + 1, i, C => bif ok (V i) then mvF V ok lo n (i + 1) (upd C (lo + i) (V i)) else (4, C)
theorem kOf_fr {fs as : List Nat} {S S' : mS} (h : Fr fs as S S') (h1 : 5 ∉ fs) (h2 : 100 ∉ as) (r : Int32) : kOf S' r = kOf S r := by
  unfold kOf
  rw [h.1 5 h1, h.2.2 100 h2]
theorem ix20 (a b : Nat) : nI a * 20 + nI b = nI (20 * a + b) := by
  rw [show (20 : Int32) = nI 20 from rfl, pk_mul, nI_add, Nat.mul_comm]
theorem s_H_move1 {d : Nat} {Q : mQ} {f n : Nat} {t st : Int32} (hf : f < 40) (hn : n ≤ 20) (S0 : mS) (hQ : ∀ S', Fr [] [104] S0 S' → S'.2.2 104 = cpW (S0.2.2 104) (S0.2.2 103) (20 * f) n → Wp (d + 1) n_X0_move 30 [(5, .int (nI n)), (0, .ref 0), (1, .int (nI f)), (2, .int t), (3, .int st), (4, .int (nI n))] [] S' Q) : ∀ (k j : Nat) (S : mS), j + k = n → Fr [] [104] S0 S → S.2.2 104 = cpW (S0.2.2 104) (S0.2.2 103) (20 * f) j →
    Wp (d + 1) n_X0_move 3 [(5, .int (nI j)), (0, .ref 0), (1, .int (nI f)), (2, .int t), (3, .int st), (4, .int (nI n))] [] S Q := by
  intro k
  induction k with
  | zero =>
    intro j S hj hF hC
    obtain rfl : j = n := by omega
    iterate 2 refine Wp.p rfl ?_
    refine Wp.b rfl (fun _ => ?_) (fun c => absurd (nI_le (Nat.le_refl _) (by omega)) c)
    exact hQ S hF hC
  | succ k ih =>
    intro j S hj hF hC
    have hlt : j < n := by omega
    iterate 2 refine Wp.p rfl ?_
    refine Wp.b rfl (fun c => absurd c (nI_ge hlt (by omega))) (fun _ => ?_)
    repeat refine Wp.p rfl ?_
    refine Wp.i rfl (s_H_cell (by rw [ix20]; exact vp_in_nI (by omega) (by omega)) ?_)
    refine Wp.g rfl (vp_in_nI (N := 20) (by omega) (by omega)) ?_
    iterate 2 refine Wp.p rfl ?_
    show Wp (d + 1) n_X0_move 3 [(5, .int (nI j + 1)), (0, .ref 0), (1, .int (nI f)), (2, .int t), (3, .int st), (4, .int (nI n))] [] _ Q
    rw [nI_1]
    refine ih (j + 1) _ (by omega) (hF.a (by decide)) ?_
    show upd (S.2.2 104) _ _ = _
    rw [ix20, nI_clamp (by omega), nI_clamp (by omega), hC, hF.2.2 103 (by decide)]
    rfl
theorem s_H_move2 {d : Nat} {Q : mQ} {f t st n : Nat} {nb : Int32} (ht : t < 40) (hst : st + n ≤ 20) (S0 : mS) (hm : (S0.1 5).toInt ≤ 40) (hk : vp_in (S0.2.2 100 t) 10) (ok : Int32 → Bool) (hok : ∀ r, ok r = (decide (¬ nb = 0) || decide (hB (m_sv 501 (S0.2.2 100 t).toNatClampNeg) (kOf S0 r)))) (C : Nat → Int32) (R : Int32 × (Nat → Int32)) (hQ : ∀ S', Fr [] [103] S0 S' → S'.2.2 103 = R.2 → Q (some (.int R.1)) S') : ∀ (k j : Nat) (S : mS) (C : Nat → Int32), j + k = n → Fr [] [103] S0 S → S.2.2 103 = C → mvF (S0.2.2 104) ok (20 * t + st) k j C = R →
    Wp (d + 2) n_X0_move 61 [(6, .int (nI j)), (5, .int nb), (0, .ref 0), (1, .int (nI f)), (2, .int (nI t)), (3, .int (nI st)), (4, .int (nI n))] [] S Q := by
  intro k
  induction k with
  | zero =>
    intro j S C hj hF hC hR
    obtain rfl : j = n := by omega
    iterate 2 refine Wp.p rfl ?_
    refine Wp.b rfl (fun _ => ?_) (fun c => absurd (nI_le (Nat.le_refl _) (by omega)) c)
    repeat refine Wp.p rfl ?_
    have h0 : R.1 = 0 := by rw [← hR]; rfl
    have h1 : R.2 = C := by rw [← hR]; rfl
    have hq := hQ S hF (by rw [h1]; exact hC)
    rw [h0] at hq
    exact Wp.r rfl trivial hq
  | succ k ih =>
    intro j S C hj hF hC hR
    have hlt : j < n := by omega
    have hclj : (nI j).toNatClampNeg = j := nI_clamp (by omega)
    have hclt : (nI t).toNatClampNeg = t := nI_clamp (by omega)
    have e104 : S.2.2 104 = S0.2.2 104 := hF.2.2 104 (by decide)
    have e100 : S.2.2 100 = S0.2.2 100 := hF.2.2 100 (by decide)
    have hRR : (bif ok (S0.2.2 104 j) then mvF (S0.2.2 104) ok (20 * t + st) k (j + 1) (upd C (20 * t + st + j) (S0.2.2 104 j)) else (4, C)) = R := hR
    have hgo : ok (S0.2.2 104 j) = true → Wp (d + 2) n_X0_move 90 [(6, .int (nI j)), (5, .int nb), (0, .ref 0), (1, .int (nI f)), (2, .int (nI t)), (3, .int (nI st)), (4, .int (nI n))] [] S Q := by
      intro hy
      rw [hy, cond_true] at hRR
      repeat refine Wp.p rfl ?_
      refine Wp.g rfl (vp_in_nI (N := 20) (by omega) (by omega)) ?_
      have hix : nI t * 20 + (nI st + nI j) = nI (20 * t + st + j) := by rw [nI_add, ix20]; congr 1; omega
      refine Wp.i rfl (s_H_setCell (by rw [hix]; exact vp_in_nI (by omega) (by omega)) ?_)
      iterate 2 refine Wp.p rfl ?_
      show Wp (d + 2) n_X0_move 61 [(6, .int (nI j + 1)), (5, .int nb), (0, .ref 0), (1, .int (nI f)), (2, .int (nI t)), (3, .int (nI st)), (4, .int (nI n))] [] _ Q
      rw [nI_1]
      refine ih (j + 1) _ _ (by omega) (hF.a (by decide)) ?_ hRR
      show upd (S.2.2 103) _ (S.2.2 104 _) = _
      rw [hix, nI_clamp (by omega), hclj, hC, e104]
    iterate 2 refine Wp.p rfl ?_
    refine Wp.b rfl (fun c => absurd c (nI_ge hlt (by omega))) (fun _ => ?_)
    repeat refine Wp.p rfl ?_
    refine Wp.b rfl (fun (c : ¬ nb = 0) => hgo (by rw [hok, decide_eq_true c]; rfl)) (fun (c : ¬ ¬ nb = 0) => ?_)
    repeat refine Wp.p rfl ?_
    refine Wp.g rfl (vp_in_nI (N := 20) (by omega) (by omega)) ?_
    refine Wp.i rfl (s_H_takes (vp_in_nI (by omega) (by omega)) (by rw [hF.1 5 (by decide)]; exact hm) (by rw [hclt, e100]; exact hk) (fun c6 => ?_) (fun c6 => ?_))
    · have c6' : hB (m_sv 501 (S.2.2 100 (nI t).toNatClampNeg).toNatClampNeg) (kOf S (S.2.2 104 (nI j).toNatClampNeg)) := c6
      rw [hclt, hclj, e100, e104, kOf_fr hF (by decide) (by decide)] at c6'
      refine Wp.b rfl (fun _ => hgo (by rw [hok, decide_eq_true c6', Bool.or_true])) (fun (e : ¬ ¬ (1 : Int32) = 0) => absurd (by decide) e)
    · have c6' : ¬ hB (m_sv 501 (S.2.2 100 (nI t).toNatClampNeg).toNatClampNeg) (kOf S (S.2.2 104 (nI j).toNatClampNeg)) := c6
      rw [hclt, hclj, e100, e104, kOf_fr hF (by decide) (by decide)] at c6'
      refine Wp.b rfl (fun (e : ¬ (0 : Int32) = 0) => absurd rfl e) (fun _ => ?_)
      repeat refine Wp.p rfl ?_
      have hno : ok (S0.2.2 104 j) = false := by rw [hok, decide_eq_false c, decide_eq_false c6']; rfl
      rw [hno, cond_false] at hRR
      have h0 : R.1 = 4 := by rw [← hRR]
      have h1 : R.2 = C := by rw [← hRR]
      have hq := hQ S hF (by rw [h1]; exact hC)
      rw [h0] at hq
      exact Wp.r rfl trivial hq
theorem s_H_move {d : Nat} {Q : mQ} {f t st n : Nat} {S : mS} (hf : f < 40) (ht : t < 40) (hst : st + n ≤ 20) (hm : (S.1 5).toInt ≤ 40) (hk : vp_in (S.2.2 100 t) 10) (ok : Int32 → Bool) (hok : ∀ r, ok r = (decide (S.2.2 100 t = 5 ∨ S.2.2 100 t = 6) || decide (hB (m_sv 501 (S.2.2 100 t).toNatClampNeg) (kOf S r))))
    (hQ : ∀ S', Fr [] [103, 104] S S' → S'.2.2 104 = cpW (S.2.2 104) (S.2.2 103) (20 * f) n → S'.2.2 103 = (mvF (cpW (S.2.2 104) (S.2.2 103) (20 * f) n) ok (20 * t + st) n 0 (S.2.2 103)).2 → Q (some (.int (mvF (cpW (S.2.2 104) (S.2.2 103) (20 * f) n) ok (20 * t + st) n 0 (S.2.2 103)).1)) S') : Ev (d + 2) n_X0_move [.ref 0, .int (nI f), .int (nI t), .int (nI st), .int (nI n)] S Q := by
  have hclt : (nI t).toNatClampNeg = t := nI_clamp (by omega)
  iterate 2 refine Wp.p rfl ?_
  refine s_H_move1 (d := d + 1) (f := f) (n := n) (t := nI t) (st := nI st) hf (by omega) S (fun S1 hF1 h104 => ?_) n 0 S (by omega) Fr.rf rfl
  have e100 : S1.2.2 100 = S.2.2 100 := hF1.2.2 100 (by decide)
  have e103 : S1.2.2 103 = S.2.2 103 := hF1.2.2 103 (by decide)
  have hk1 : ∀ r, kOf S1 r = kOf S r := kOf_fr hF1 (by decide) (by decide)
  have fin : ∀ nb : Int32, (¬ nb = 0 ↔ (S.2.2 100 t = 5 ∨ S.2.2 100 t = 6)) → Wp (d + 2) n_X0_move 61 [(6, .int (nI 0)), (5, .int nb), (0, .ref 0), (1, .int (nI f)), (2, .int (nI t)), (3, .int (nI st)), (4, .int (nI n))] [] S1 Q := by
    intro nb hnb
    refine s_H_move2 (f := f) ht hst S1 (by rw [hF1.1 5 (by decide)]; exact hm) (by rw [e100]; exact hk) ok (fun r => by rw [hok, e100, hk1]; congr 2; exact propext hnb.symm) (S.2.2 103) _ (fun S' hF h103 => ?_) n 0 S1 (S.2.2 103) (by omega) Fr.rf e103 rfl
    rw [h104] at h103
    rw [h104]
    exact hQ S' ((hF1.up (by decide) (by decide)).tr (hF.up (by decide) (by decide))) (by rw [hF.2.2 104 (by decide)]; exact h104) h103
  repeat refine Wp.p rfl ?_
  refine Wp.g rfl (vp_in_nI (N := 40) ht (by omega)) ?_
  repeat refine Wp.p rfl ?_
  refine Wp.b rfl (fun (c : S1.2.2 100 (nI t).toNatClampNeg = 5) => ?_) (fun (c : ¬ S1.2.2 100 (nI t).toNatClampNeg = 5) => ?_)
  · rw [hclt, e100] at c
    iterate 5 refine Wp.p rfl ?_
    exact fin 1 ⟨fun _ => Or.inl c, fun _ => by decide⟩
  · rw [hclt, e100] at c
    repeat refine Wp.p rfl ?_
    refine Wp.g rfl (vp_in_nI (N := 40) ht (by omega)) ?_
    repeat refine Wp.p rfl ?_
    refine Wp.b rfl (fun (c2 : ¬ S1.2.2 100 (nI t).toNatClampNeg = 6) => ?_) (fun (c2 : ¬ ¬ S1.2.2 100 (nI t).toNatClampNeg = 6) => ?_)
    · rw [hclt, e100] at c2
      iterate 4 refine Wp.p rfl ?_
      exact fin 0 ⟨fun e => absurd rfl e, fun e => e.elim (fun z => absurd z c) (fun z => absurd z c2)⟩
    · rw [hclt, e100] at c2
      iterate 5 refine Wp.p rfl ?_
      exact fin 1 ⟨fun _ => Or.inr (Decidable.not_not.mp c2), fun _ => by decide⟩
