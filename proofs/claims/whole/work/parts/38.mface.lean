theorem bI_pred {n : Nat} {x : Int32} (hn : n < 2 ^ 31) : bI (0 ≤ x ∧ x ≤ nI n - 1) = bI (0 ≤ x ∧ x < nI n) := by
  have hl : x ≤ nI n - 1 ↔ x < nI n := by
    rw [Int32.le_iff_toInt_le, Int32.lt_iff_toInt_lt, nI_toInt hn]
    cases n with
    | zero => rw [show (nI 0 - 1 : Int32).toInt = -1 from by decide]; omega
    | succ n => rw [nI_pred, nI_toInt (by omega)]; omega
  by_cases c : 0 ≤ x ∧ x < nI n
  · rw [bI_t c, bI_t ⟨c.1, hl.mpr c.2⟩]
  · rw [bI_f c, bI_f (fun z => c ⟨z.1, hl.mp z.2⟩)]
theorem bI_le5 {x : Int32} : bI (0 ≤ x ∧ x ≤ 5) = bI (0 ≤ x ∧ x < 6) := bI_pred (n := 6) (by decide)
theorem bI_le3 {x : Int32} : bI (0 ≤ x ∧ x ≤ 3) = bI (0 ≤ x ∧ x < 4) := bI_pred (n := 4) (by decide)
theorem s_D_ran {d : Nat} {S : mS} {Q : mQ} {w : Int32} (h0 : S.1 251 = 0 → Q (some (.long (-9223372036854775808))) (sF S 240 0)) (h1 : ¬ S.1 251 = 0 → Q (some (.long (ranF (S.1 252) (S.1 253) (S.1 254) (S.1 255) (S.1 256) w))) (sF S 240 0)) : Ev (d + 1) n_X6_ran [.ref 6, .int w] S Q := by
  repeat refine Wp.p rfl ?_
  refine Wp.b rfl (fun (c : S.1 251 = 0) => ?_) (fun (c : ¬ S.1 251 = 0) => ?_)
  · repeat refine Wp.p rfl ?_
    exact Wp.r rfl trivial (h0 c)
  have h := h1 c
  repeat refine Wp.p rfl ?_
  refine Wp.i rfl (s_m_in (x := w) (lo := 0) (hi := 4) rfl rfl ?_)
  refine Wp.b rfl (fun (e : ¬ bI (0 ≤ w ∧ w ≤ 4) = 0) => ?_) (fun (e : ¬ ¬ bI (0 ≤ w ∧ w ≤ 4) = 0) => ?_)
  · have cw : 0 ≤ w ∧ w ≤ 4 := Decidable.not_not.mp (fun z => e (bI_0.mpr z))
    obtain ⟨t, t1, t2, rfl⟩ := of_rng (lo := 0) (hi := 4) rfl rfl (by decide) (by decide) cw.1 cw.2
    have : t = 0 ∨ t = 1 ∨ t = 2 ∨ t = 3 ∨ t = 4 := by omega
    rcases this with rfl | rfl | rfl | rfl | rfl
    · (repeat (first | refine Wp.p rfl ?_ | refine Wp.bT rfl (by decide) ?_ | refine Wp.bF rfl (by decide) ?_))
      exact Wp.r rfl trivial h
    · (repeat (first | refine Wp.p rfl ?_ | refine Wp.bT rfl (by decide) ?_ | refine Wp.bF rfl (by decide) ?_))
      exact Wp.r rfl trivial h
    · (repeat (first | refine Wp.p rfl ?_ | refine Wp.bT rfl (by decide) ?_ | refine Wp.bF rfl (by decide) ?_))
      exact Wp.r rfl trivial h
    · (repeat (first | refine Wp.p rfl ?_ | refine Wp.bT rfl (by decide) ?_ | refine Wp.bF rfl (by decide) ?_))
      exact Wp.r rfl trivial h
    · (repeat (first | refine Wp.p rfl ?_ | refine Wp.bT rfl (by decide) ?_ | refine Wp.bF rfl (by decide) ?_))
      exact Wp.r rfl trivial h
  · have cw : ¬ (0 ≤ w ∧ w ≤ 4) := bI_0.mp (Decidable.not_not.mp e)
    have n0 : ∀ c : Int32, 0 ≤ c ∧ c ≤ 4 → ¬ w = c := fun c hc z => cw (z ▸ hc)
    unfold ranF at h
    rw [if_neg (n0 0 (by decide)), if_neg (n0 1 (by decide)), if_neg (n0 2 (by decide)), if_neg (n0 3 (by decide)), if_neg (n0 4 (by decide))] at h
    repeat refine Wp.p rfl ?_
    exact Wp.r rfl trivial h
theorem s_D_number {d : Nat} {S : mS} {Q : mQ} {k : Int32} (h0 : ¬ (0 ≤ k ∧ k < 4) ∨ S.1 251 = 0 → Q (some (.long (-9223372036854775808))) (sF S 240 0)) (h1 : 0 ≤ k ∧ k < 4 → ¬ S.1 251 = 0 → Q (some (.long (S.2.2 362 (tn k)).toInt64)) (sF S 240 0)) : Ev (d + 1) n_X6_number [.ref 6, .int k] S Q := by
  repeat refine Wp.p rfl ?_
  refine Wp.b rfl (fun (c : S.1 251 = 0) => ?_) (fun (c : ¬ S.1 251 = 0) => ?_)
  · repeat refine Wp.p rfl ?_
    exact Wp.r rfl trivial (h0 (Or.inr c))
  repeat refine Wp.p rfl ?_
  refine Wp.i rfl (s_m_in (x := k) (lo := 0) (hi := 3) rfl rfl ?_)
  rw [bI_le3]
  refine Wp.b rfl (fun (e : bI (0 ≤ k ∧ k < 4) = 0) => ?_) (fun (e : ¬ bI (0 ≤ k ∧ k < 4) = 0) => ?_)
  · repeat refine Wp.p rfl ?_
    exact Wp.r rfl trivial (h0 (Or.inl (bI_0.mp e)))
  · have ck : 0 ≤ k ∧ k < 4 := Decidable.not_not.mp (fun z => e (bI_0.mpr z))
    repeat refine Wp.p rfl ?_
    refine Wp.g rfl (inN ck) ?_
    repeat refine Wp.p rfl ?_
    exact Wp.r rfl trivial (h1 ck c)
theorem s_D_seen {d n : Nat} {S : mS} {Q : mQ} {s v : Int32} (hn : S.1 241 = nI n) (hn2 : n ≤ 32) (h0 : ∀ i j, i < n → j < 6 → s = nI i → v = nI j → Q (some (.int (S.2.2 347 (6 * i + j)))) (sF S 240 0)) (h1 : ¬ ((0 ≤ s ∧ s < nI n) ∧ 0 ≤ v ∧ v < 6) → Q (some (.int (-1))) (sF S 240 0)) : Ev (d + 1) n_X6_seen [.ref 6, .int s, .int v] S Q := by
  repeat refine Wp.p rfl ?_
  refine Wp.i rfl (s_m_in (x := s) (lo := 0) (hi := S.1 241 - 1) rfl rfl ?_)
  rw [hn, bI_pred (by omega)]
  refine Wp.b rfl (fun (c : bI (0 ≤ s ∧ s < nI n) = 0) => ?_) (fun (c : ¬ bI (0 ≤ s ∧ s < nI n) = 0) => ?_)
  · repeat refine Wp.p rfl ?_
    exact Wp.r rfl trivial (h1 (fun z => bI_0.mp c z.1))
  have cs : 0 ≤ s ∧ s < nI n := Decidable.not_not.mp (fun z => c (bI_0.mpr z))
  repeat refine Wp.p rfl ?_
  refine Wp.i rfl (s_m_in (x := v) (lo := 0) (hi := 5) rfl rfl ?_)
  rw [bI_le5]
  refine Wp.b rfl (fun (c : bI (0 ≤ v ∧ v < 6) = 0) => ?_) (fun (c : ¬ bI (0 ≤ v ∧ v < 6) = 0) => ?_)
  · repeat refine Wp.p rfl ?_
    exact Wp.r rfl trivial (h1 (fun z => bI_0.mp c z.2))
  have cv : 0 ≤ v ∧ v < 6 := Decidable.not_not.mp (fun z => c (bI_0.mpr z))
  obtain ⟨i, hi0, rfl⟩ := nI_of (Int32.not_lt.mpr cs.1)
  obtain ⟨j, hj0, rfl⟩ := nI_of (Int32.not_lt.mpr cv.1)
  have hi : i < n := (nI_ltI hi0 (by omega)).mp cs.2
  have hj : j < 6 := (nI_ltI (b := 6) hj0 (by decide)).mp cv.2
  repeat refine Wp.p rfl ?_
  refine Wp.g rfl (show vp_in (6 * nI i + nI j) 192 by rw [ix6]; exact vp_in_nI (by omega) (by omega)) ?_
  repeat refine Wp.p rfl ?_
  refine Wp.r rfl trivial ?_
  show Q (some (.int (S.2.2 347 (tn (6 * nI i + nI j))))) (sF S 240 0)
  rw [ix6, tn_nI (by omega)]
  exact h0 i j hi hj rfl rfl
theorem s_D_had {d n : Nat} {S : mS} {Q : mQ} {s : Int32} (hn : S.1 241 = nI n) (hn2 : n ≤ 32) (h0 : ∀ i, i < n → s = nI i → Q (some (.int (S.2.2 348 i))) (sF S 240 0)) (h1 : ¬ (0 ≤ s ∧ s < nI n) → Q (some (.int (-1))) (sF S 240 0)) : Ev (d + 1) n_X6_had [.ref 6, .int s] S Q := by
  repeat refine Wp.p rfl ?_
  refine Wp.i rfl (s_m_in (x := s) (lo := 0) (hi := S.1 241 - 1) rfl rfl ?_)
  rw [hn, bI_pred (by omega)]
  refine Wp.b rfl (fun (c : bI (0 ≤ s ∧ s < nI n) = 0) => ?_) (fun (c : ¬ bI (0 ≤ s ∧ s < nI n) = 0) => ?_)
  · repeat refine Wp.p rfl ?_
    exact Wp.r rfl trivial (h1 (bI_0.mp c))
  have cs : 0 ≤ s ∧ s < nI n := Decidable.not_not.mp (fun z => c (bI_0.mpr z))
  obtain ⟨i, hi0, rfl⟩ := nI_of (Int32.not_lt.mpr cs.1)
  have hi : i < n := (nI_ltI hi0 (by omega)).mp cs.2
  repeat refine Wp.p rfl ?_
  refine Wp.g rfl (vp_in_nI (N := 32) (by omega) (by omega)) ?_
  repeat refine Wp.p rfl ?_
  refine Wp.r rfl trivial ?_
  show Q (some (.int (S.2.2 348 (tn (nI i))))) (sF S 240 0)
  rw [tn_nI (by omega)]
  exact h0 i hi rfl
theorem s_D_thrown {d : Nat} {S : mS} {Q : mQ} (h : Q (some (.int (S.1 240))) S) : Ev d n_X6_thrown [.ref 6] S Q := by
  repeat refine Wp.p rfl ?_
  exact Wp.r rfl trivial h
theorem s_D_mean {d : Nat} {S : mS} {Q : mQ} (h0 : S.1 250 = 0 → Q (some (.int 0)) (sF (sF S 240 0) 240 1)) (h1 : ¬ S.1 250 = 0 → Q (some (.int (S.2.1 / (S.1 250).toInt64).toInt32)) (sF S 240 0)) : Ev d n_X6_mean [.ref 6] S Q := by
  repeat refine Wp.p rfl ?_
  refine Wp.b rfl (fun (c : ¬ S.1 250 = 0) => ?_) (fun (c : ¬ ¬ S.1 250 = 0) => ?_)
  · repeat refine Wp.p rfl ?_
    refine Wp.g rfl (show ¬ (S.1 250).toInt64 = 0 from fun z => c ?_) ?_
    · have := congrArg Int64.toInt z
      rw [Int32.toInt_toInt64] at this
      exact Int32.toInt_inj.mp this
    repeat refine Wp.p rfl ?_
    exact Wp.r rfl trivial (h1 c)
  · repeat refine Wp.p rfl ?_
    exact Wp.r rfl trivial (h0 (Decidable.not_not.mp c))
theorem vk992 : ∀ j, j < 10 → (hB 992 (nI j) ↔ ¬ nI j < 5) ∧ (hB 30 (nI j) ↔ ¬ (nI j = 0 ∨ 4 < nI j)) := by decide
theorem s_D_variable {d : Nat} {S : mS} {Q : mQ} {v w : Int32} (hW : ¬ S.1 251 = 0 → ∃ k0, WFk k0 (dV S)) (h1 : ¬ (0 ≤ v ∧ v < 6) → Q (some (.int (-1))) (sF S 240 0)) (h2 : 0 ≤ v ∧ v < 6 → ¬ (0 ≤ w ∧ w ≤ 3) → Q (some (.int (-2))) (sF S 240 0)) (h3 : 0 ≤ v ∧ v < 6 → 0 ≤ w ∧ w ≤ 3 → S.1 251 = 0 → Q (some (.int (-3))) (sF S 240 0)) (h0 : 0 ≤ v ∧ v < 6 → 0 ≤ w ∧ w ≤ 3 → ¬ S.1 251 = 0 → Q (some (.int (varF (dV S) (tn v) w))) (sF S 240 0)) : Ev (d + 2) n_X6_variable [.ref 6, .int v, .int w] S Q := by
  repeat refine Wp.p rfl ?_
  refine Wp.i rfl (s_m_in (x := v) (lo := 0) (hi := 5) rfl rfl ?_)
  rw [bI_le5]
  refine Wp.b rfl (fun (c : ¬ bI (0 ≤ v ∧ v < 6) = 0) => ?_) (fun (c : ¬ ¬ bI (0 ≤ v ∧ v < 6) = 0) => ?_)
  case refine_2 =>
    repeat refine Wp.p rfl ?_
    exact Wp.r rfl trivial (h1 (bI_0.mp (Decidable.not_not.mp c)))
  have cv : 0 ≤ v ∧ v < 6 := Decidable.not_not.mp (fun z => c (bI_0.mpr z))
  repeat refine Wp.p rfl ?_
  refine Wp.i rfl (s_m_in (x := w) (lo := 0) (hi := 3) rfl rfl ?_)
  refine Wp.b rfl (fun (c : ¬ bI (0 ≤ w ∧ w ≤ 3) = 0) => ?_) (fun (c : ¬ ¬ bI (0 ≤ w ∧ w ≤ 3) = 0) => ?_)
  case refine_2 =>
    repeat refine Wp.p rfl ?_
    exact Wp.r rfl trivial (h2 cv (bI_0.mp (Decidable.not_not.mp c)))
  have cw : 0 ≤ w ∧ w ≤ 3 := Decidable.not_not.mp (fun z => c (bI_0.mpr z))
  repeat refine Wp.p rfl ?_
  refine Wp.b rfl (fun (c4 : ¬ S.1 251 = 0) => ?_) (fun (c4 : ¬ ¬ S.1 251 = 0) => ?_)
  case refine_2 =>
    repeat refine Wp.p rfl ?_
    exact Wp.r rfl trivial (h3 cv cw (Decidable.not_not.mp c4))
  obtain ⟨k0, hW0⟩ := hW c4
  have h := h0 cv cw c4
  repeat refine Wp.p rfl ?_
  refine Wp.g rfl (inV cv) ?_
  repeat refine Wp.p rfl ?_
  refine Wp.i rfl (s_m_kind (S := sF S 240 0) (k0 := k0) hW0 cv ?_)
  show Wp (d + 2) n_X6_variable 56 [(3, .int (S.2.2 361 (tn v))), (0, .ref 6), (1, .int v), (2, .int w)] [.int (kd (dV S) (S.2.2 361 (tn v)))] (sF S 240 0) Q
  obtain ⟨j, hj, ej⟩ := kd_10 hW0 (wf_ref hW0 cv)
  have ej' : kd (dV S) (S.2.2 361 (tn v)) = nI j := ej
  obtain ⟨t, t1, t2, rfl⟩ := of_rng (lo := 0) (hi := 3) rfl rfl (by decide) (by decide) cw.1 cw.2
  have : t = 0 ∨ t = 1 ∨ t = 2 ∨ t = 3 := by omega
  rcases this with rfl | rfl | rfl | rfl
  · (repeat (first | refine Wp.p rfl ?_ | refine Wp.bT rfl (by decide) ?_ | refine Wp.bF rfl (by decide) ?_))
    exact Wp.r rfl trivial h
  · have h : Q (some (.int (if kd (dV S) (S.2.2 361 (tn v)) = 0 then -3 else S.2.2 361 (tn v)))) (sF S 240 0) := h
    iterate 2 refine Wp.p rfl ?_
    refine Wp.bT rfl (by decide) ?_
    iterate 2 refine Wp.p rfl ?_
    refine Wp.bF rfl (by decide) ?_
    iterate 1 refine Wp.p rfl ?_
    rcases dv_c hW0 (wf_ref hW0 cv) with ⟨er, ek⟩ | ⟨j, t, hj, hk, er, t1, t9, ht, ek⟩
    · have er' : S.2.2 361 (tn v) = -1 := er
      rw [if_pos (show kd (dV S) (S.2.2 361 (tn v)) = 0 from ek)] at h
      refine Wp.b rfl (fun (q : 0 ≤ S.2.2 361 (tn v)) => absurd (er' ▸ q) m1_lt0) (fun _ => ?_)
      repeat refine Wp.p rfl ?_
      exact Wp.r rfl trivial h
    · have er' : S.2.2 361 (tn v) = nI j := er
      rw [if_neg (show ¬ kd (dV S) (S.2.2 361 (tn v)) = 0 from fun e => by
        have := (nI_eq (a := t) (b := 0) (by omega) (by decide)).mp (ek.symm.trans e)
        omega)] at h
      refine Wp.b rfl (fun _ => ?_) (fun (q : ¬ 0 ≤ S.2.2 361 (tn v)) => absurd (by rw [er']; exact nI_pos' (by omega)) q)
      repeat refine Wp.p rfl ?_
      exact Wp.r rfl trivial h
  · have h : Q (some (.int (if hB 992 (kd (dV S) (S.2.2 361 (tn v))) then S.2.2 359 (tn (S.2.2 361 (tn v))) else -3))) (sF S 240 0) := h
    rw [ej'] at h ⊢
    iterate 2 refine Wp.p rfl ?_
    refine Wp.bT rfl (by decide) ?_
    iterate 2 refine Wp.p rfl ?_
    refine Wp.bT rfl (by decide) ?_
    iterate 2 refine Wp.p rfl ?_
    refine Wp.bF rfl (by decide) ?_
    iterate 2 refine Wp.p rfl ?_
    refine Wp.b rfl (fun (q : 5 ≤ nI j) => ?_) (fun (q : ¬ 5 ≤ nI j) => ?_)
    · rw [if_pos ((vk992 j hj).1.mpr (Int32.not_lt.mpr q))] at h
      repeat refine Wp.p rfl ?_
      refine Wp.g rfl ?_ ?_
      · show vp_in (S.2.2 361 (tn v)) 500
        have hne : ¬ kd (dV S) (gV (dV S) (tn v)) = 0 := fun z => by
          rw [ej] at z
          rw [z] at q
          exact absurd q (by decide)
        obtain ⟨-, j', hj', e'⟩ := vr_in hW0.1 (wf_ref hW0 cv) hne
        rw [show S.2.2 361 (tn v) = nI j' from e']
        have := hW0.1
        exact vp_in_nI (by omega) (by omega)
      · exact Wp.r rfl trivial h
    · rw [if_neg (fun z => q (Int32.not_lt.mp ((vk992 j hj).1.mp z)))] at h
      repeat refine Wp.p rfl ?_
      exact Wp.r rfl trivial h
  · have h : Q (some (.int (if hB 30 (kd (dV S) (S.2.2 361 (tn v))) then kd (dV S) (S.2.2 358 (tn (S.2.2 361 (tn v)))) else -3))) (sF S 240 0) := h
    rw [ej'] at h ⊢
    iterate 2 refine Wp.p rfl ?_
    refine Wp.bT rfl (by decide) ?_
    iterate 2 refine Wp.p rfl ?_
    refine Wp.bT rfl (by decide) ?_
    iterate 2 refine Wp.p rfl ?_
    refine Wp.bT rfl (by decide) ?_
    iterate 1 refine Wp.p rfl ?_
    have no : nI j = 0 ∨ 4 < nI j → Q (some (.int (-3))) (sF S 240 0) := fun z => by
      rw [if_neg (fun y => (vk992 j hj).2.mp y z)] at h
      exact h
    refine Wp.b rfl (fun (q : nI j = 0) => ?_) (fun (q : ¬ nI j = 0) => ?_)
    · repeat refine Wp.p rfl ?_
      exact Wp.r rfl trivial (no (Or.inl q))
    repeat refine Wp.p rfl ?_
    refine Wp.b rfl (fun (q2 : nI j ≤ 4) => ?_) (fun (q2 : ¬ nI j ≤ 4) => ?_)
    case refine_2 =>
      repeat refine Wp.p rfl ?_
      exact Wp.r rfl trivial (no (Or.inr (Int32.not_le.mp q2)))
    rw [if_pos ((vk992 j hj).2.mpr (fun z => z.elim q (Int32.not_lt.mpr q2)))] at h
    have hk := hW0.1
    obtain ⟨-, o, ho, eo⟩ := vr_in hW0.1 (wf_ref hW0 cv) (fun z => q (ej.symm.trans z))
    have eo' : S.2.2 361 (tn v) = nI o := eo
    have hin : vp_in (S.2.2 361 (tn v)) 500 := by rw [eo']; exact vp_in_nI (by omega) (by omega)
    obtain ⟨-, -, hX⟩ := hW0.2.2.2 o ho
    have eX : S.2.2 358 (tn (S.2.2 361 (tn v))) = gX (dV S) o := by rw [eo', tn_nI (by omega)]; rfl
    repeat refine Wp.p rfl ?_
    refine Wp.g rfl hin ?_
    rcases dv_c hW0 hX with ⟨er, ek⟩ | ⟨j2, t2, hj2, -, er, t21, t29, ht2, ek⟩
    · refine Wp.b rfl (fun (q : 0 ≤ S.2.2 358 (tn (S.2.2 361 (tn v)))) => absurd q (by rw [eX, er]; exact m1_lt0)) (fun _ => ?_)
      repeat refine Wp.p rfl ?_
      rw [eX, ek] at h
      exact Wp.r rfl trivial h
    · refine Wp.b rfl (fun _ => ?_) (fun (q : ¬ 0 ≤ S.2.2 358 (tn (S.2.2 361 (tn v)))) => absurd (by rw [eX, er]; exact nI_pos' (by omega)) q)
      repeat refine Wp.p rfl ?_
      refine Wp.g rfl hin ?_
      refine Wp.g rfl (show vp_in (S.2.2 358 (tn (S.2.2 361 (tn v)))) 500 by rw [eX, er]; exact vp_in_nI (by omega) (by omega)) ?_
      refine Wp.r rfl trivial ?_
      show Q (some (.int (S.2.2 357 (tn (S.2.2 358 (tn (S.2.2 361 (tn v)))))))) (sF S 240 0)
      rw [eX, ek] at h
      rw [eX, er, tn_nI (by omega), show S.2.2 357 j2 = nI t2 from ht2]
      exact h
