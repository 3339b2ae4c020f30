theorem vr_up {k k' : Nat} {r : Int32} (h : vr k r) (hk : k ≤ k') : vr k' r := by
  rcases h with h | ⟨j, hj, e⟩
  · exact Or.inl h
  · exact Or.inr ⟨j, by omega, e⟩
theorem WF_V {k i : Nat} {m : mM} {x : Int32} (h : WFk k m) (hx : vr k x) : WFk k (stV m i x) := by
  refine ⟨h.1, h.2.1, fun v hv => ?_, h.2.2.2⟩
  show vr k (upd m.1 i x v)
  by_cases e : v = i
  · rw [show upd m.1 i x v = x from if_pos e]; exact hx
  · rw [show upd m.1 i x v = m.1 v from if_neg e]; exact h.2.2.1 v hv
theorem WF_N {k i : Nat} {m : mM} {x : Int32} (h : WFk k m) : WFk k (stN m i x) := h
theorem WF_X {k i : Nat} {m : mM} {x : Int32} (h : WFk k m) (hx : vr k x) : WFk k (stX m i x) := by
  refine ⟨h.1, h.2.1, h.2.2.1, fun o ho => ?_⟩
  obtain ⟨h1, h2, h3⟩ := h.2.2.2 o ho
  refine ⟨h1, h2, ?_⟩
  show vr k (upd (gX m) i x o)
  by_cases e : o = i
  · rw [show upd (gX m) i x o = x from if_pos e]; exact hx
  · rw [show upd (gX m) i x o = gX m o from if_neg e]; exact h3
/-- other cells: only those of array t at place < 20 may change, and what is there then is in order -/
theorem WF_Cs {k t : Nat} {m : mM} {C W' : Nat → Int32} (h : WFk k m) (hC : ∀ q, (q < 20 * t ∨ 20 * t + 20 ≤ q) → C q = gC m q) (hn : ∀ n, gL m t = nI n → n ≤ 20 → 7 ≤ gK m t → ∀ i, i < n → (vr k (C (20 * t + i)) ∨ C (20 * t + i) = -2) ∧ hB (m_sv 501 (tn (gK m t))) (kd m (C (20 * t + i)))) : WFk k (gV m, gN m, gK m, gL m, gX m, C, W', gM m) := by
  refine ⟨h.1, h.2.1, h.2.2.1, fun o ho => ?_⟩
  obtain ⟨h1, ⟨n, hn1, hn2, hn3⟩, h3⟩ := h.2.2.2 o ho
  refine ⟨h1, ⟨n, hn1, hn2, fun h7 i hi => ?_⟩, h3⟩
  show (vr k (C (20 * o + i)) ∨ C (20 * o + i) = -2) ∧ hB (m_sv 501 (tn (gK m o))) (kd m (C (20 * o + i)))
  by_cases e : o = t
  · subst e
    exact hn n hn2 hn1 h7 i hi
  · rw [hC (20 * o + i) (by omega)]
    exact hn3 h7 i hi
theorem kd_j {m : mM} {j : Nat} (hj : j < 2 ^ 31) : kd m (nI j) = gK m j := by
  unfold kd
  rw [if_pos (nI_pos' hj), tn_nI hj]
/-- a reference out of a cell of an array of things -/
theorem cell_vr {k o i n : Nat} {m : mM} (h : WFk k m) (ho : o < k) (hk : hB 384 (gK m o)) (hn : gL m o = nI n) (hi : i < n) (hn2 : n < 2 ^ 31) : vr k (gC m (20 * o + i)) := by
  obtain ⟨⟨t, t1, t2, et⟩, ⟨n', a1, a2, a3⟩, -⟩ := h.2.2.2 o ho
  have hnn : n' = n := (nI_eq (by omega) hn2).mp (a2.symm.trans hn)
  subst hnn
  have h78 : t = 7 ∨ t = 8 := by
    rw [et] at hk
    have : ∀ t, t < 10 → hB 384 (nI t) → t = 7 ∨ t = 8 := by decide
    exact this t (by omega) hk
  have h7 : 7 ≤ gK m o := by
    rw [et]
    rcases h78 with rfl | rfl <;> decide
  obtain ⟨b1, b2⟩ := a3 h7 i hi
  rcases b1 with b1 | b1
  · exact b1
  · rw [b1, et, show kd m (-2) = 5 from rfl] at b2
    rcases h78 with rfl | rfl
    · exact absurd b2 (by decide)
    · exact absurd b2 (by decide)
theorem uFm_of {m : mM} {r k : Int32} (h : uFm m r k = 0) : ¬ kd m r = 0 ∧ hB k (kd m r) := by
  unfold uFm at h
  split at h
  · exact absurd h (by decide)
  · next h1 =>
    split at h
    · next h2 => exact ⟨h1, h2⟩
    · exact absurd h (by decide)
theorem cFm_of {m : mM} {r k x : Int32} (h : cFm m r k x = 0) : ¬ kd m r = 0 ∧ hB k (kd m r) ∧ 0 ≤ x ∧ x < gL m (tn r) := by
  unfold cFm at h
  split at h
  · exact absurd h (by decide)
  · next h1 =>
    split at h
    · next h2 =>
      split at h
      · next h3 => exact ⟨h1, h2, h3.1, h3.2⟩
      · exact absurd h (by decide)
    · exact absurd h (by decide)
theorem fillC_out {f : Nat → Int32} {lo : Nat} {x : Int32} : ∀ {n q : Nat}, (q < lo ∨ lo + n ≤ q) → fillC f lo x n q = f q := by
  intro n
  induction n with
  | zero => intro q _; rfl
  | succ n ih =>
    intro q h
    show upd (fillC f lo x n) (lo + n) x q = f q
    rw [show upd (fillC f lo x n) (lo + n) x q = fillC f lo x n q from if_neg (by omega)]
    exact ih (by omega)
theorem fillC_in {f : Nat → Int32} {lo : Nat} {x : Int32} : ∀ {n q : Nat}, lo ≤ q → q < lo + n → fillC f lo x n q = x := by
  intro n
  induction n with
  | zero => intro q h1 h2; omega
  | succ n ih =>
    intro q h1 h2
    show upd (fillC f lo x n) (lo + n) x q = x
    by_cases e : q = lo + n
    · exact if_pos e
    · rw [show upd (fillC f lo x n) (lo + n) x q = fillC f lo x n q from if_neg e]
      exact ih h1 (by omega)
theorem fst_ok : ∀ t, t < 10 → 7 ≤ nI t → (fstC (nI t) = -1 ∨ fstC (nI t) = -2) ∧ hB (m_sv 501 t) (if fstC (nI t) = -2 then 5 else 0) := by decide
theorem WF_new {k a t n : Nat} {m : mM} (h : WFk k m) (hk : k < 40) (ht : 1 ≤ t ∧ t ≤ 9) (hn : n ≤ 20) : WFk (k + 1) (newO m a (nI t) (nI n)) := by
  have tm : tn (gM m) = k := by rw [h.2.1]; exact tn_nI (by omega)
  have kk : ∀ r, (vr k r ∨ r = -2) → kd (newO m a (nI t) (nI n)) r = kd m r := by
    intro r hr
    unfold kd
    rcases hr with (rfl | ⟨j, hj, rfl⟩) | rfl
    · rfl
    · rw [if_pos (nI_pos' (by omega)), if_pos (nI_pos' (by omega)), tn_nI (by omega)]
      show upd (gK m) (tn (gM m)) (nI t) j = gK m j
      rw [tm]
      exact if_neg (by omega)
    · rfl
  refine ⟨by omega, ?_, fun v hv => ?_, fun o ho => ?_⟩
  · show gM m + 1 = nI (k + 1)
    rw [h.2.1, nI_1]
  · show vr (k + 1) (upd (gV m) a (gM m) v)
    by_cases e : v = a
    · rw [show upd (gV m) a (gM m) v = gM m from if_pos e, h.2.1]
      exact Or.inr ⟨k, by omega, rfl⟩
    · rw [show upd (gV m) a (gM m) v = gV m v from if_neg e]
      exact vr_up (h.2.2.1 v hv) (by omega)
  · show (∃ t', 1 ≤ t' ∧ t' ≤ 9 ∧ upd (gK m) (tn (gM m)) (nI t) o = nI t') ∧ (∃ n', n' ≤ 20 ∧ upd (gL m) (tn (gM m)) (nI n) o = nI n' ∧ (7 ≤ upd (gK m) (tn (gM m)) (nI t) o → ∀ i, i < n' → (vr (k + 1) (fillC (gC m) (20 * tn (gM m)) (fstC (nI t)) (tn (nI n)) (20 * o + i)) ∨ fillC (gC m) (20 * tn (gM m)) (fstC (nI t)) (tn (nI n)) (20 * o + i) = -2) ∧ hB (m_sv 501 (tn (upd (gK m) (tn (gM m)) (nI t) o))) (kd (newO m a (nI t) (nI n)) (fillC (gC m) (20 * tn (gM m)) (fstC (nI t)) (tn (nI n)) (20 * o + i))))) ∧ vr (k + 1) (upd (gX m) (tn (gM m)) (-1) o)
    rw [tm, tn_nI (show n < 2 ^ 31 by omega)]
    by_cases e : o = k
    · subst e
      rw [show upd (gK m) o (nI t) o = nI t from if_pos rfl, show upd (gL m) o (nI n) o = nI n from if_pos rfl, show upd (gX m) o (-1) o = -1 from if_pos rfl, tn_nI (show t < 2 ^ 31 by omega)]
      refine ⟨⟨t, ht.1, ht.2, rfl⟩, ⟨n, hn, rfl, fun h7 i hi => ?_⟩, Or.inl rfl⟩
      rw [fillC_in (by omega) (by omega)]
      obtain ⟨f1, f2⟩ := fst_ok t (by omega) h7
      rcases f1 with f1 | f1
      · rw [f1] at f2 ⊢
        exact ⟨Or.inl (Or.inl rfl), f2⟩
      · rw [f1] at f2 ⊢
        exact ⟨Or.inr rfl, f2⟩
    · obtain ⟨h1, ⟨n', n1, n2, n3⟩, h3⟩ := h.2.2.2 o (by omega)
      rw [show upd (gK m) k (nI t) o = gK m o from if_neg e, show upd (gL m) k (nI n) o = gL m o from if_neg e, show upd (gX m) k (-1) o = gX m o from if_neg e]
      refine ⟨h1, ⟨n', n1, n2, fun h7 i hi => ?_⟩, vr_up h3 (by omega)⟩
      rw [fillC_out (by omega)]
      obtain ⟨c1, c2⟩ := n3 h7 i hi
      rw [kk _ c1]
      exact ⟨c1.imp (fun z => vr_up z (by omega)) id, c2⟩
theorem mvF_out {V : Nat → Int32} {ok : Int32 → Bool} {lo : Nat} : ∀ {n i q : Nat} {C : Nat → Int32}, (q < lo + i ∨ lo + i + n ≤ q) → (mvF V ok lo n i C).2 q = C q := by
  intro n
  induction n with
  | zero => intro i q C _; rfl
  | succ n ih =>
    intro i q C h
    show (bif ok (V i) then mvF V ok lo n (i + 1) (upd C (lo + i) (V i)) else (4, C)).2 q = C q
    cases ok (V i) with
    | false => rfl
    | true =>
      show (mvF V ok lo n (i + 1) (upd C (lo + i) (V i))).2 q = C q
      rw [ih (by omega)]
      exact if_neg (by omega)
theorem mvF_in {V : Nat → Int32} {ok : Int32 → Bool} {lo : Nat} {P : Int32 → Prop} : ∀ {n i q : Nat} {C : Nat → Int32}, (∀ j, i ≤ j → j < i + n → ok (V j) = true → P (V j)) → P (C q) → P ((mvF V ok lo n i C).2 q) := by
  intro n
  induction n with
  | zero => intro i q C _ h; exact h
  | succ n ih =>
    intro i q C h hq
    show P ((bif ok (V i) then mvF V ok lo n (i + 1) (upd C (lo + i) (V i)) else (4, C)).2 q)
    cases ho : ok (V i) with
    | false => exact hq
    | true =>
      show P ((mvF V ok lo n (i + 1) (upd C (lo + i) (V i))).2 q)
      refine ih (fun j h1 h2 h3 => h j (by omega) (by omega) h3) ?_
      by_cases e : q = lo + i
      · rw [show upd C (lo + i) (V i) q = V i from if_pos e]
        exact h i (Nat.le_refl _) (by omega) ho
      · rw [show upd C (lo + i) (V i) q = C q from if_neg e]
        exact hq
