theorem mvF_congr {V : Nat → Int32} {ok ok' : Int32 → Bool} {lo : Nat} : ∀ (n i : Nat) (C : Nat → Int32), (∀ j, i ≤ j → j < i + n → ok (V j) = ok' (V j)) → mvF V ok lo n i C = mvF V ok' lo n i C := by
  intro n
  induction n with
  | zero => intro i C _; rfl
  | succ n ih =>
    intro i C h
    show (bif ok (V i) then _ else _) = (bif ok' (V i) then _ else _)
    rw [h i (Nat.le_refl _) (by omega), ih (i + 1) _ (fun j h1 h2 => h j (by omega) (by omega))]
theorem m_sv5 : ∀ t, t < 10 → (hB (m_sv 502 t) 5 ↔ t = 5) ∧ (hB (m_sv 502 t) 6 ↔ t = 6) := by decide
theorem mv_kinds : ∀ a, a < 10 → ∀ b, b < 10 → hB (m_sv 502 a) (nI b) → (nI b = 5 ∨ nI b = 6) ∨ (7 ≤ nI a ∧ 7 ≤ nI b) := by decide
set_option maxHeartbeats 1000000 in
theorem s_M_move {d k : Nat} {S : mS} {Q : mQ} {f t st n : Int32} (hW : WFk k (cV S)) (hf : vr k f) (ht : vr k t) (hQ : ∀ S', Fr [] [103, 104] S S' → cV S' = (mvM (cV S) f t st n).2 → Q (some (.int (mvM (cV S) f t st n).1)) S') : Ev (d + 3) n_X1_move [.ref 1, .int f, .int t, .int st, .int n] S Q := by
  obtain ⟨hk, h5, hV, hO⟩ := hW
  have h5' : S.1 5 = nI k := h5
  have hm : (S.1 5).toInt ≤ 40 := by rw [h5', nI_toInt (by omega)]; omega
  have ekf := kOf_kd h5' hk (Or.inl hf)
  have ekt := kOf_kd h5' hk (Or.inl ht)
  have q0 : ∀ x : Int32, mvM (cV S) f t st n = (x, cV S) → Q (some (.int x)) S := fun x e => by
    have := hQ S Fr.rf (by rw [e])
    rw [e] at this
    exact this
  repeat refine Wp.p rfl ?_
  refine Wp.i rfl (s_H_kindOf hm ?_)
  repeat refine Wp.p rfl ?_
  refine Wp.i rfl (s_H_kindOf hm ?_)
  rw [ekf, ekt]
  repeat refine Wp.p rfl ?_
  refine Wp.b rfl (fun (c : kd (cV S) f = 0) => ?_) (fun (c : ¬ kd (cV S) f = 0) => ?_)
  · repeat refine Wp.p rfl ?_
    exact Wp.r rfl trivial (q0 1 (by unfold mvM; rw [if_pos (Or.inl c)]))
  repeat refine Wp.p rfl ?_
  refine Wp.b rfl (fun (c2 : ¬ kd (cV S) t = 0) => ?_) (fun (c2 : ¬ ¬ kd (cV S) t = 0) => ?_)
  case refine_2 =>
    repeat refine Wp.p rfl ?_
    exact Wp.r rfl trivial (q0 1 (by unfold mvM; rw [if_pos (Or.inr (Decidable.not_not.mp c2))]))
  obtain ⟨hinf, jf, hjf, ef⟩ := vr_in hk hf c
  obtain ⟨hint, jt, hjt, et⟩ := vr_in hk ht c2
  subst ef
  subst et
  obtain ⟨⟨kf, kf1, kf2, ekf2⟩, ⟨lf, hlf, elf, hcf⟩, -⟩ := hO jf hjf
  obtain ⟨⟨kt, kt1, kt2, ekt2⟩, ⟨lt, hlt, elt, hct⟩, -⟩ := hO jt hjt
  have tnf : tn (nI jf) = jf := tn_nI (by omega)
  have tnt : tn (nI jt) = jt := tn_nI (by omega)
  have kdf : kd (cV S) (nI jf) = nI kf := by unfold kd; rw [if_pos (nI_pos' (by omega)), tnf]; exact ekf2
  have kdt : kd (cV S) (nI jt) = nI kt := by unfold kd; rw [if_pos (nI_pos' (by omega)), tnt]; exact ekt2
  have nn : ¬ (kd (cV S) (nI jf) = 0 ∨ kd (cV S) (nI jt) = 0) := fun q => q.elim c c2
  repeat refine Wp.p rfl ?_
  refine Wp.g rfl (show vp_in (kd (cV S) (nI jf)) 10 by rw [kdf]; exact vp_in_nI (by omega) (by omega)) ?_
  repeat refine Wp.p rfl ?_
  refine Wp.i rfl (s_holds (fun (c3 : hB (m_sv 502 (tn (kd (cV S) (nI jf)))) (kd (cV S) (nI jt))) => ?_) (fun (c3 : ¬ hB (m_sv 502 (tn (kd (cV S) (nI jf)))) (kd (cV S) (nI jt))) => ?_))
  case refine_2 =>
    refine Wp.b rfl (fun (e : ¬ (0 : Int32) = 0) => absurd rfl e) (fun _ => ?_)
    repeat refine Wp.p rfl ?_
    exact Wp.r rfl trivial (q0 4 (by unfold mvM; rw [if_neg nn, if_neg c3]))
  refine Wp.b rfl (fun _ => ?_) (fun (e : ¬ ¬ (1 : Int32) = 0) => absurd (by decide) e)
  have bad : (n < 0 ∨ st < 0 ∨ gL (cV S) (tn (nI jf)) < n ∨ gL (cV S) (tn (nI jt)) - n < st) → Q (some (.int 3)) S := fun q => q0 3 (by unfold mvM; rw [if_neg nn, if_pos c3, if_pos q])
  have elf' : S.2.2 101 (nI jf).toNatClampNeg = nI lf := by rw [nI_clamp (by omega)]; exact elf
  have elt' : S.2.2 101 (nI jt).toNatClampNeg = nI lt := by rw [nI_clamp (by omega)]; exact elt
  repeat refine Wp.p rfl ?_
  refine Wp.b rfl (fun (c4 : n < 0) => ?_) (fun (c4 : ¬ n < 0) => ?_)
  · repeat refine Wp.p rfl ?_
    exact Wp.r rfl trivial (bad (Or.inl c4))
  repeat refine Wp.p rfl ?_
  refine Wp.b rfl (fun (c5 : st < 0) => ?_) (fun (c5 : ¬ st < 0) => ?_)
  · repeat refine Wp.p rfl ?_
    exact Wp.r rfl trivial (bad (Or.inr (Or.inl c5)))
  repeat refine Wp.p rfl ?_
  refine Wp.i rfl (s_H_lengthOf hinf ?_)
  refine Wp.b rfl (fun (c6 : S.2.2 101 (nI jf).toNatClampNeg < n) => ?_) (fun (c6 : ¬ S.2.2 101 (nI jf).toNatClampNeg < n) => ?_)
  · repeat refine Wp.p rfl ?_
    exact Wp.r rfl trivial (bad (Or.inr (Or.inr (Or.inl c6))))
  repeat refine Wp.p rfl ?_
  refine Wp.i rfl (s_H_lengthOf hint ?_)
  repeat refine Wp.p rfl ?_
  refine Wp.b rfl (fun (c7 : st ≤ S.2.2 101 (nI jt).toNatClampNeg - n) => ?_) (fun (c7 : ¬ st ≤ S.2.2 101 (nI jt).toNatClampNeg - n) => ?_)
  case refine_2 =>
    repeat refine Wp.p rfl ?_
    exact Wp.r rfl trivial (bad (Or.inr (Or.inr (Or.inr (Int32.not_le.mp c7)))))
  obtain ⟨n', hn', rfl⟩ := nI_of c4
  obtain ⟨s', hs', rfl⟩ := nI_of c5
  have hnl : n' ≤ lf := by
    rw [elf'] at c6
    exact (nI_leI (by omega) (by omega)).mp (Int32.not_lt.mp c6)
  have hsl : s' + n' ≤ lt := by
    rw [elt'] at c7
    have h1 := Int32.le_iff_toInt_le.mp c7
    rw [pk_sub_toInt (by omega) (by omega), nI_toInt hs'] at h1
    omega
  have tnn : tn (nI n') = n' := tn_nI hn'
  have tns : tn (nI s') = s' := tn_nI hs'
  have notbad : ¬ (nI n' < 0 ∨ nI s' < 0 ∨ gL (cV S) (tn (nI jf)) < nI n' ∨ gL (cV S) (tn (nI jt)) - nI n' < nI s') := by
    rintro (q | q | q | q)
    · exact c4 q
    · exact c5 q
    · exact c6 q
    · exact Int32.not_lt.mpr c7 q
  have hmv : mvM (cV S) (nI jf) (nI jt) (nI s') (nI n') = ((mvF (cpW (gW (cV S)) (gC (cV S)) (20 * jf) n') (okC (cV S) (nI kt)) (20 * jt + s') n' 0 (gC (cV S))).1, (gV (cV S), gN (cV S), gK (cV S), gL (cV S), gX (cV S), (mvF (cpW (gW (cV S)) (gC (cV S)) (20 * jf) n') (okC (cV S) (nI kt)) (20 * jt + s') n' 0 (gC (cV S))).2, cpW (gW (cV S)) (gC (cV S)) (20 * jf) n', gM (cV S))) := by
    unfold mvM
    rw [if_neg nn, if_pos c3, if_neg notbad, tnf, tnt, tnn, tns, kdt]
  have hcong : mvF (cpW (S.2.2 104) (S.2.2 103) (20 * jf) n') (fun r => decide (S.2.2 100 jt = 5 ∨ S.2.2 100 jt = 6) || decide (hB (m_sv 501 (S.2.2 100 jt).toNatClampNeg) (kOf S r))) (20 * jt + s') n' 0 (S.2.2 103) = mvF (cpW (S.2.2 104) (S.2.2 103) (20 * jf) n') (okC (cV S) (nI kt)) (20 * jt + s') n' 0 (S.2.2 103) := by
    apply mvF_congr
    intro j _ hj
    have ekt3 : S.2.2 100 jt = nI kt := ekt2
    unfold okC
    rw [ekt3]
    have hj' : j < n' := by omega
    rw [cpW_at hj']
    rw [kdf, kdt, tn_nI (by omega)] at c3
    rcases mv_kinds kf (by omega) kt (by omega) c3 with h | ⟨h7, -⟩
    · rw [decide_eq_true h]; rfl
    · have h7' : 7 ≤ gK (cV S) jf := by rw [ekf2]; exact h7
      have h8 := (hcf h7' j (by omega)).1
      have h9 : kOf S (S.2.2 103 (20 * jf + j)) = kd (cV S) (S.2.2 103 (20 * jf + j)) := kOf_kd h5' hk h8
      rw [h9]
  repeat refine Wp.p rfl ?_
  refine Wp.i rfl (s_H_move (f := jf) (t := jt) (st := s') (n := n') (by omega) (by omega) (by omega) hm (show vp_in (S.2.2 100 jt) 10 by rw [show S.2.2 100 jt = nI kt from ekt2]; exact vp_in_nI (by omega) (by omega)) _ (fun r => rfl) (fun S' hF h104 h103 => ?_))
  rw [hcong] at h103 ⊢
  have hq := hQ S' hF (by
    rw [hmv]
    unfold cV
    rw [h103, h104, hF.2.2 143 (by decide), hF.2.2 144 (by decide), hF.2.2 100 (by decide), hF.2.2 101 (by decide), hF.2.2 102 (by decide), hF.1 5 (by decide)]
    rfl)
  rw [hmv] at hq
  exact Wp.r rfl trivial hq
