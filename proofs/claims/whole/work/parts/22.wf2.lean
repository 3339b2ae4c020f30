theorem of_rng {x : Int32} {lo hi : Nat} {a b : Int32} (ha : a = nI lo) (hb : b = nI hi) (h : hi < 2 ^ 31) (hl : lo < 2 ^ 31) (h1 : a ≤ x) (h2 : x ≤ b) : ∃ t, lo ≤ t ∧ t ≤ hi ∧ x = nI t := by
  subst ha
  subst hb
  have h0 : ¬ x < 0 := Int32.not_lt.mpr (Int32.le_trans (nI_pos' hl) h1)
  obtain ⟨t, ht, rfl⟩ := nI_of h0
  exact ⟨t, (nI_leI hl ht).mp h1, (nI_leI ht h).mp h2, rfl⟩
theorem wf_ref {k : Nat} {m : mM} {v : Int32} (h : WFk k m) (hv : 0 ≤ v ∧ v < 6) : vr k (gV m (tn v)) := h.2.2.1 _ (inVt hv)
theorem wf_gk {k o : Nat} {m : mM} (h : WFk k m) (ho : o < k) : kd m (nI o) = gK m o := kd_j (by have := h.1; omega)
set_option maxHeartbeats 1000000 in
theorem WF_mv {k : Nat} {m : mM} {f t st n : Int32} (h : WFk k m) (hf : vr k f) (ht : vr k t) : WFk k (mvM m f t st n).2 := by
  unfold mvM
  split
  · exact h
  · next c0 =>
    split
    · next c3 =>
      split
      · exact h
      · next c4 =>
        obtain ⟨-, jf, hjf, rfl⟩ := vr_in h.1 hf (fun q => c0 (Or.inl q))
        obtain ⟨-, jt, hjt, rfl⟩ := vr_in h.1 ht (fun q => c0 (Or.inr q))
        have hk := h.1
        have tnf : tn (nI jf) = jf := tn_nI (by omega)
        have tnt : tn (nI jt) = jt := tn_nI (by omega)
        obtain ⟨⟨kf, kf1, kf2, ekf⟩, ⟨lf, hlf, elf, hcf⟩, -⟩ := h.2.2.2 jf hjf
        obtain ⟨⟨kt, kt1, kt2, ekt⟩, ⟨lt, hlt, elt, hct⟩, -⟩ := h.2.2.2 jt hjt
        rw [tnf, tnt, elf, elt] at c4
        have n0 : ¬ n < 0 := fun z => c4 (Or.inl z)
        have s0 : ¬ st < 0 := fun z => c4 (Or.inr (Or.inl z))
        obtain ⟨n', hn', rfl⟩ := nI_of n0
        obtain ⟨s', hs', rfl⟩ := nI_of s0
        have hnl : n' ≤ lf := (nI_leI hn' (by omega)).mp (Int32.not_lt.mp (fun z => c4 (Or.inr (Or.inr (Or.inl z)))))
        have hsl : s' + n' ≤ lt := by
          have h1 := Int32.le_iff_toInt_le.mp (Int32.not_lt.mp (fun z => c4 (Or.inr (Or.inr (Or.inr z)))))
          rw [pk_sub_toInt (by omega) (by omega), nI_toInt hs'] at h1
          omega
        rw [wf_gk h hjf, wf_gk h hjt, ekf, ekt, tn_nI (show kf < 2 ^ 31 by omega)] at c3
        rw [tnf, tnt, tn_nI hn', tn_nI hs', wf_gk h hjt, ekt]
        refine WF_Cs (t := jt) h (fun q hq => mvF_out (by omega)) (fun n hn hn20 h7 i hi => ?_)
        have hnlt : n = lt := (nI_eq (by omega) (by omega)).mp (hn.symm.trans elt)
        subst hnlt
        have h7t : 7 ≤ nI kt := by rw [← ekt]; exact h7
        have h7f : 7 ≤ gK m jf := by
          rw [ekf]
          rcases mv_kinds kf (by omega) kt (by omega) c3 with z | ⟨z, -⟩
          · rcases z with z | z <;> (rw [z] at h7t; exact absurd h7t (by decide))
          · exact z
        refine mvF_in (P := fun x => (vr k x ∨ x = -2) ∧ hB (m_sv 501 (tn (gK m jt))) (kd m x)) (fun j h1 h2 h3 => ?_) (hct h7 i hi)
        rw [cpW_at (by omega)] at h3 ⊢
        refine ⟨(hcf h7f j (by omega)).1, ?_⟩
        unfold okC at h3
        rcases (Bool.or_eq_true _ _).mp h3 with z | z
        · have z' := of_decide_eq_true z
          rcases z' with z' | z' <;> (rw [z'] at h7t; exact absurd h7t (by decide))
        · have z' := of_decide_eq_true z
          rw [ekt]
          exact z'
    · exact h
set_option maxHeartbeats 1000000 in
/-- a step leaves all in order -/
theorem WF_do {k kk : Nat} {m : mM} {a b c : Int32} (h : WFk k m) (hw : wS kk a b c) : ∃ k', WFk k' (doS m kk a b c).2 := by
  have hkk := hw.1
  have hk := h.1
  match kk, hkk with
  | 0, _ => exact ⟨k, WF_V h (Or.inl rfl)⟩
  | 1, _ =>
    show ∃ k', WFk k' (if gM m = 40 then (8, m) else (0, newO m (tn a) b 0)).2
    split
    · exact ⟨k, h⟩
    · next e =>
      have hb := hw.2.2.1.2.2.1 rfl
      obtain ⟨t, t1, t2, rfl⟩ := of_rng (lo := 1) (hi := 4) rfl rfl (by decide) (by decide) hb.1 hb.2
      refine ⟨k + 1, WF_new (n := 0) h ?_ ⟨t1, by omega⟩ (by omega)⟩
      rcases Nat.lt_or_ge k 40 with z | z
      · exact z
      · exact absurd (by rw [h.2.1, show k = 40 by omega]; rfl) e
  | 2, _ =>
    show ∃ k', WFk k' (if gN m (tn c) < 0 then (5, m) else if 20 < gN m (tn c) ∨ gM m = 40 then (8, m) else (0, newO m (tn a) b (gN m (tn c)))).2
    split
    · exact ⟨k, h⟩
    · next e0 =>
      split
      · exact ⟨k, h⟩
      · next e =>
        have hb := hw.2.2.1.2.2.2.1 rfl
        obtain ⟨t, t1, t2, rfl⟩ := of_rng (lo := 5) (hi := 9) rfl rfl (by decide) (by decide) hb.1 hb.2
        obtain ⟨n, hn, en⟩ := nI_of2 (M := 20) (n := 20) rfl e0 (Int32.not_lt.mp (fun z => e (Or.inl z)))
        rw [en]
        refine ⟨k + 1, WF_new (n := n) h ?_ ⟨by omega, by omega⟩ hn⟩
        rcases Nat.lt_or_ge k 40 with z | z
        · exact z
        · exact absurd (Or.inr (by rw [h.2.1, show k = 40 by omega]; rfl)) e
  | 3, _ => exact ⟨k, WF_V h (wf_ref h (hw.2.2.1.1 rfl))⟩
  | 4, _ => exact ⟨k, h⟩
  | 5, _ => exact ⟨k, h⟩
  | 6, _ =>
    show ∃ k', WFk k' (if hB (m_sv 500 (tn b) ||| 1) (kd m (gV m (tn a))) then (0, stV m (tn c) (gV m (tn a))) else (2, m)).2
    split
    · exact ⟨k, WF_V h (wf_ref h (hw.2.1.1 rfl))⟩
    · exact ⟨k, h⟩
  | 7, _ =>
    show ∃ k', WFk k' (if uFm m (gV m (tn b)) 30 = 0 then (0, stV m (tn a) (gX m (tn (gV m (tn b))))) else (uFm m (gV m (tn b)) 30, m)).2
    split
    · next e =>
      obtain ⟨-, j, hj, ej⟩ := vr_in hk (wf_ref h (hw.2.2.1.1 rfl)) (uFm_of e).1
      refine ⟨k, WF_V h ?_⟩
      rw [ej, tn_nI (by omega)]
      exact (h.2.2.2 j hj).2.2
    · exact ⟨k, h⟩
  | 8, _ =>
    show ∃ k', WFk k' (if uFm m (gV m (tn a)) 30 = 0 then (0, stX m (tn (gV m (tn a))) (gV m (tn b))) else (uFm m (gV m (tn a)) 30, m)).2
    split
    · exact ⟨k, WF_X h (wf_ref h (hw.2.2.1.1 rfl))⟩
    · exact ⟨k, h⟩
  | 9, _ =>
    show ∃ k', WFk k' (if cFm m (gV m (tn b)) 384 (gN m (tn c)) = 0 then (0, stV m (tn a) (gC m (20 * tn (gV m (tn b)) + tn (gN m (tn c))))) else (cFm m (gV m (tn b)) 384 (gN m (tn c)), m)).2
    split
    · next e =>
      obtain ⟨e1, e2, e3, e4⟩ := cFm_of e
      obtain ⟨-, j, hj, ej⟩ := vr_in hk (wf_ref h (hw.2.2.1.1 rfl)) e1
      have tj : tn (nI j) = j := tn_nI (by omega)
      rw [ej, wf_gk h hj] at e2
      rw [ej, tj] at e4
      obtain ⟨-, ⟨n, n1, n2, -⟩, -⟩ := h.2.2.2 j hj
      obtain ⟨x', hx', ex⟩ := nI_of (Int32.not_lt.mpr e3)
      rw [ex, n2] at e4
      refine ⟨k, WF_V h ?_⟩
      rw [ej, tj, ex, tn_nI hx']
      exact cell_vr h hj e2 n2 ((nI_ltI hx' (by omega)).mp e4) (by omega)
    · exact ⟨k, h⟩
  | 10, _ =>
    show ∃ k', WFk k' (if ¬ hB 385 (kd m (gV m (tn a))) ∨ ¬ hB 31 (kd m (gV m (tn b))) then (2, m) else if cFm m (gV m (tn a)) 384 (gN m (tn c)) = 0 then (if hB (m_sv 501 (tn (kd m (gV m (tn a))))) (kd m (gV m (tn b))) then (0, stC m (20 * tn (gV m (tn a)) + tn (gN m (tn c))) (gV m (tn b))) else (4, m)) else (cFm m (gV m (tn a)) 384 (gN m (tn c)), m)).2
    split
    · exact ⟨k, h⟩
    · split
      · next e =>
        split
        · next e5 =>
          obtain ⟨e1, e2, e3, e4⟩ := cFm_of e
          obtain ⟨-, j, hj, ej⟩ := vr_in hk (wf_ref h (hw.2.1.1 rfl)) e1
          have tj : tn (nI j) = j := tn_nI (by omega)
          rw [ej, tj] at e4
          obtain ⟨-, ⟨n, n1, n2, n3⟩, -⟩ := h.2.2.2 j hj
          obtain ⟨x', hx', ex⟩ := nI_of (Int32.not_lt.mpr e3)
          rw [ex, n2] at e4
          have hlt := (nI_ltI hx' (by omega)).mp e4
          rw [ej, wf_gk h hj] at e5
          rw [ej, tj, ex, tn_nI hx']
          refine ⟨k, WF_Cs (t := j) h (fun q hq => if_neg (by omega)) (fun n' hn hn20 h7 i hi => ?_)⟩
          have hnn : n' = n := (nI_eq (by omega) (by omega)).mp (hn.symm.trans n2)
          subst hnn
          by_cases ei : 20 * j + i = 20 * j + x'
          · rw [show upd (gC m) (20 * j + x') (gV m (tn b)) (20 * j + i) = gV m (tn b) from if_pos ei]
            exact ⟨Or.inl (wf_ref h (hw.2.2.1.1 rfl)), e5⟩
          · rw [show upd (gC m) (20 * j + x') (gV m (tn b)) (20 * j + i) = gC m (20 * j + i) from if_neg ei]
            exact n3 h7 i hi
        · exact ⟨k, h⟩
      · exact ⟨k, h⟩
  | 11, _ =>
    show ∃ k', WFk k' (if uFm m (gV m (tn b)) 20 = 0 then (0, stN m (tn a) (faceN m (gV m (tn b)) false)) else (uFm m (gV m (tn b)) 20, m)).2
    split
    · exact ⟨k, h⟩
    · exact ⟨k, h⟩
  | 12, _ =>
    show ∃ k', WFk k' (if uFm m (gV m (tn b)) 20 = 0 then (0, stN m (tn a) (faceN m (gV m (tn b)) true)) else (uFm m (gV m (tn b)) 20, m)).2
    split
    · exact ⟨k, h⟩
    · exact ⟨k, h⟩
  | 13, _ =>
    show ∃ k', WFk k' (if uFm m (gV m (tn b)) 992 = 0 then (0, stN m (tn a) (gL m (tn (gV m (tn b))))) else (uFm m (gV m (tn b)) 992, m)).2
    split
    · exact ⟨k, h⟩
    · exact ⟨k, h⟩
  | 14, _ =>
    show ∃ k', WFk k' (if cFm m (gV m (tn b)) 32 (gN m (tn c)) = 0 then (0, stN m (tn a) (gC m (20 * tn (gV m (tn b)) + tn (gN m (tn c))))) else (cFm m (gV m (tn b)) 32 (gN m (tn c)), m)).2
    split
    · exact ⟨k, h⟩
    · exact ⟨k, h⟩
  | 15, _ =>
    show ∃ k', WFk k' (if cFm m (gV m (tn a)) 32 (gN m (tn b)) = 0 then (0, stC m (20 * tn (gV m (tn a)) + tn (gN m (tn b))) (gN m (tn c))) else (cFm m (gV m (tn a)) 32 (gN m (tn b)), m)).2
    split
    · next e =>
      obtain ⟨e1, e2, e3, e4⟩ := cFm_of e
      obtain ⟨-, j, hj, ej⟩ := vr_in hk (wf_ref h (hw.2.1.1 rfl)) e1
      have tj : tn (nI j) = j := tn_nI (by omega)
      rw [ej, wf_gk h hj] at e2
      rw [ej, tj] at e4
      obtain ⟨⟨t, t1, t2, et⟩, ⟨n, n1, n2, n3⟩, -⟩ := h.2.2.2 j hj
      obtain ⟨x', hx', ex⟩ := nI_of (Int32.not_lt.mpr e3)
      rw [ex, n2] at e4
      have hlt := (nI_ltI hx' (by omega)).mp e4
      rw [ej, tj, ex, tn_nI hx']
      refine ⟨k, WF_Cs (t := j) h (fun q hq => if_neg (by omega)) (fun n' hn hn20 h7 i hi => ?_)⟩
      rw [et] at e2 h7
      have : ∀ t, t < 10 → hB 32 (nI t) → ¬ 7 ≤ nI t := by decide
      exact absurd h7 (this t (by omega) e2)
    · exact ⟨k, h⟩
  | 16, _ => exact ⟨k, h⟩
  | 17, _ => exact ⟨k, h⟩
  | 18, _ =>
    show ∃ k', WFk k' (if gN m (tn b) = 0 then (6, m) else (0, stN m (tn a) (gN m (tn a) / gN m (tn b)))).2
    split
    · exact ⟨k, h⟩
    · exact ⟨k, h⟩
  | 19, _ => exact ⟨k, h⟩
  | 20, _ => exact ⟨k, h⟩
  | 21, _ => exact ⟨k, h⟩
  | 22, _ => exact ⟨k, WF_mv h (wf_ref h (hw.2.1.1 rfl)) (wf_ref h (hw.2.2.1.1 rfl))⟩
  | 23, _ => exact ⟨k, h⟩
  | n + 24, hn => exact absurd hn (by omega)
