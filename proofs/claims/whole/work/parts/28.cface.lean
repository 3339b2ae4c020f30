/-- what variable answers behind a run -/
def varF (m : mM) (v : Nat) (w : Int32) : Int32 := if w = 0 then kd m (gV m v) else if w = 1 then (if kd m (gV m v) = 0 then -3 else gV m v) else if w = 2 then (if hB 992 (kd m (gV m v)) then gL m (tn (gV m v)) else -3) else (if hB 30 (kd m (gV m v)) then kd m (gX m (tn (gV m v))) else -3)
theorem hB_ne0 {x : Int32} (hx : ¬ hB x 0) {k : Int32} (h : hB x k) : ¬ k = 0 := fun e => hx (e ▸ h)
theorem s_M_look {d k0 : Nat} {S : mS} {Q : mQ} {v w : Int32} (hW : WFk k0 (cV S)) (hv : 0 ≤ v ∧ v < 6) (hw : w = 0 ∨ w = 1 ∨ w = 2 ∨ w = 3) (h : Q (some (.int (varF (cV S) (tn v) w))) S) : Ev (d + 1) n_X1_look [.ref 1, .int v, .int w] S Q := by
  have hr := wf_v hW hv
  have ek := wf_k hW hr
  repeat refine Wp.p rfl ?_
  refine Wp.g rfl (inV hv) ?_
  repeat refine Wp.p rfl ?_
  refine Wp.i rfl (s_H_kindOf (r := S.2.2 143 (tn v)) (wf_m hW) ?_)
  rw [ek]
  iterate 2 refine Wp.p rfl ?_
  rcases hw with rfl | rfl | rfl | rfl
  · refine Wp.p (pc' := 44) rfl ?_
    repeat refine Wp.p rfl ?_
    exact Wp.r rfl trivial h
  · refine Wp.p (pc' := 47) rfl ?_
    repeat refine Wp.p rfl ?_
    have h' : Q (some (.int (if kd (cV S) (S.2.2 143 (tn v)) = 0 then -3 else S.2.2 143 (tn v)))) S := h
    refine Wp.b rfl (fun (c : ¬ kd (cV S) (S.2.2 143 (tn v)) = 0) => ?_) (fun (c : ¬ ¬ kd (cV S) (S.2.2 143 (tn v)) = 0) => ?_)
    · rw [if_neg c] at h'
      repeat refine Wp.p rfl ?_
      exact Wp.r rfl trivial h'
    · rw [if_pos (Decidable.not_not.mp c)] at h'
      repeat refine Wp.p rfl ?_
      exact Wp.r rfl trivial h'
  · refine Wp.p (pc' := 59) rfl ?_
    repeat refine Wp.p rfl ?_
    have h' : Q (some (.int (if hB 992 (kd (cV S) (S.2.2 143 (tn v))) then S.2.2 101 (tn (S.2.2 143 (tn v))) else -3))) S := h
    refine Wp.i rfl (s_holds (fun c => ?_) (fun c => ?_))
    · rw [if_pos c] at h'
      refine Wp.b rfl (fun (e : (1 : Int32) = 0) => absurd e (by decide)) (fun _ => ?_)
      repeat refine Wp.p rfl ?_
      refine Wp.i rfl (s_H_lengthOf (r := S.2.2 143 (tn v)) (wf_r hW hr (by rw [ek]; exact hB_ne0 (by decide) c)) ?_)
      repeat refine Wp.p rfl ?_
      exact Wp.r rfl trivial h'
    · rw [if_neg c] at h'
      refine Wp.b rfl (fun _ => ?_) (fun (e : ¬ (0 : Int32) = 0) => absurd rfl e)
      repeat refine Wp.p rfl ?_
      exact Wp.r rfl trivial h'
  · refine Wp.p (pc' := 84) rfl ?_
    repeat refine Wp.p rfl ?_
    have h' : Q (some (.int (if hB 30 (kd (cV S) (S.2.2 143 (tn v))) then kd (cV S) (S.2.2 102 (tn (S.2.2 143 (tn v)))) else -3))) S := h
    refine Wp.i rfl (s_holds (fun c => ?_) (fun c => ?_))
    · rw [if_pos c] at h'
      have hne := hB_ne0 (by decide) c
      obtain ⟨hin, j, hj, ej⟩ := vr_in hW.1 hr hne
      have hnx : vr k0 (S.2.2 102 (tn (S.2.2 143 (tn v)))) := by
        rw [ej, tn_nI (by have := hW.1; omega)]
        exact (hW.2.2.2 j hj).2.2
      refine Wp.b rfl (fun (e : (1 : Int32) = 0) => absurd e (by decide)) (fun _ => ?_)
      repeat refine Wp.p rfl ?_
      refine Wp.i rfl (s_H_nextOf (r := S.2.2 143 (tn v)) hin ?_)
      refine Wp.i rfl (s_H_kindOf (r := S.2.2 102 (tn (S.2.2 143 (tn v)))) (wf_m hW) ?_)
      rw [wf_k hW hnx]
      repeat refine Wp.p rfl ?_
      exact Wp.r rfl trivial h'
    · rw [if_neg c] at h'
      refine Wp.b rfl (fun _ => ?_) (fun (e : ¬ (0 : Int32) = 0) => absurd rfl e)
      repeat refine Wp.p rfl ?_
      exact Wp.r rfl trivial h'
theorem s_C_variable {d : Nat} {S : mS} {Q : mQ} {v w : Int32} (hW : ¬ S.1 48 = 4 → ∃ k0, WFk k0 (cV S)) (h1 : ¬ (0 ≤ v ∧ v < 6) → Q (some (.int (-1))) S) (h2 : 0 ≤ v ∧ v < 6 → ¬ (0 ≤ w ∧ w ≤ 3) → Q (some (.int (-2))) S) (h3 : 0 ≤ v ∧ v < 6 → 0 ≤ w ∧ w ≤ 3 → S.1 48 = 4 → Q (some (.int (-3))) S) (h0 : 0 ≤ v ∧ v < 6 → 0 ≤ w ∧ w ≤ 3 → ¬ S.1 48 = 4 → Q (some (.int (varF (cV S) (tn v) w))) S) : Ev (d + 2) n_X5_variable [.ref 5, .int v, .int w] S Q := by
  repeat refine Wp.p rfl ?_
  refine Wp.i rfl (s_isVariable ?_)
  refine Wp.b rfl (fun (c : ¬ bI (0 ≤ v ∧ v < 6) = 0) => ?_) (fun (c : ¬ ¬ bI (0 ≤ v ∧ v < 6) = 0) => ?_)
  · have cv : 0 ≤ v ∧ v < 6 := Decidable.not_not.mp (fun z => c (bI_0.mpr z))
    repeat refine Wp.p rfl ?_
    refine Wp.b rfl (fun (c1 : w < 0) => ?_) (fun (c1 : ¬ w < 0) => ?_)
    · repeat refine Wp.p rfl ?_
      exact Wp.r rfl trivial (h2 cv (fun z => Int32.not_lt.mpr z.1 c1))
    · repeat refine Wp.p rfl ?_
      refine Wp.b rfl (fun (c2 : w ≤ 3) => ?_) (fun (c2 : ¬ w ≤ 3) => ?_)
      · have cw : 0 ≤ w ∧ w ≤ 3 := ⟨Int32.not_lt.mp c1, c2⟩
        repeat refine Wp.p rfl ?_
        refine Wp.i rfl (s_M_hasRun ?_)
        refine Wp.b rfl (fun (c : bI (¬ S.1 48 = 4) = 0) => ?_) (fun (c : ¬ bI (¬ S.1 48 = 4) = 0) => ?_)
        · repeat refine Wp.p rfl ?_
          exact Wp.r rfl trivial (h3 cv cw (Decidable.not_not.mp (bI_0.mp c)))
        · have c4 : ¬ S.1 48 = 4 := fun z => c (bI_0.mpr (fun q => q z))
          obtain ⟨k0, hW0⟩ := hW c4
          repeat refine Wp.p rfl ?_
          refine Wp.i rfl (s_M_look hW0 cv ?_ ?_)
          · obtain ⟨t, t1, t2, rfl⟩ := of_rng (lo := 0) (hi := 3) rfl rfl (by decide) (by decide) cw.1 cw.2
            have : t = 0 ∨ t = 1 ∨ t = 2 ∨ t = 3 := by omega
            rcases this with rfl | rfl | rfl | rfl
            · exact Or.inl rfl
            · exact Or.inr (Or.inl rfl)
            · exact Or.inr (Or.inr (Or.inl rfl))
            · exact Or.inr (Or.inr (Or.inr rfl))
          · repeat refine Wp.p rfl ?_
            exact Wp.r rfl trivial (h0 cv cw c4)
      · repeat refine Wp.p rfl ?_
        exact Wp.r rfl trivial (h2 cv (fun z => c2 z.2))
  · repeat refine Wp.p rfl ?_
    exact Wp.r rfl trivial (h1 (bI_0.mp (Decidable.not_not.mp c)))
theorem s_P_fits {d : Nat} {S : mS} {Q : mQ} {v : Int32} : ∀ ch : Int32, ch ∈ [(86 : Int32), 78, 75, 65, 84, 83, 45] → (fitL ch v → Q (some (.int 1)) S) → (¬ fitL ch v → Q (some (.int 0)) S) → Ev (d + 1) n_X3_fits [.int ch, .int v] S Q := by
  intro ch hch h1 h0
  have no : ∀ (a b : Int32) (P : Prop), ¬ a = b → (a = b → P) := fun a b P h e => absurd e h
  simp only [List.mem_cons, List.not_mem_nil, or_false] at hch
  rcases hch with rfl | rfl | rfl | rfl | rfl | rfl | rfl
  · refine Wp.p rfl ?_
    refine Wp.p (pc' := 60) rfl ?_
    refine Wp.p rfl ?_
    refine Wp.i rfl (s_isVariable ?_)
    by_cases c : 0 ≤ v ∧ v < 6
    · rw [bI_t c]
      exact Wp.r rfl (Or.inr rfl) (h1 ⟨fun _ => c, no _ _ _ (by decide), no _ _ _ (by decide), no _ _ _ (by decide), no _ _ _ (by decide), no _ _ _ (by decide)⟩)
    · rw [bI_f c]
      exact Wp.r rfl (Or.inl rfl) (h0 (fun z => c (z.1 rfl)))
  · refine Wp.p rfl ?_
    refine Wp.p (pc' := 65) rfl ?_
    refine Wp.p rfl ?_
    refine Wp.i rfl (s_isNumber ?_)
    by_cases c : 0 ≤ v ∧ v < 4
    · rw [bI_t c]
      exact Wp.r rfl (Or.inr rfl) (h1 ⟨no _ _ _ (by decide), fun _ => c, no _ _ _ (by decide), no _ _ _ (by decide), no _ _ _ (by decide), no _ _ _ (by decide)⟩)
    · rw [bI_f c]
      exact Wp.r rfl (Or.inl rfl) (h0 (fun z => c (z.2.1 rfl)))
  · refine Wp.p rfl ?_
    refine Wp.p (pc' := 70) rfl ?_
    repeat refine Wp.p rfl ?_
    refine Wp.b rfl (fun (c : v < 1) => ?_) (fun (c : ¬ v < 1) => ?_)
    · repeat refine Wp.p rfl ?_
      exact Wp.r rfl (Or.inl rfl) (h0 (fun z => Int32.not_lt.mpr (z.2.2.1 rfl).1 c))
    · repeat refine Wp.p rfl ?_
      refine Wp.b rfl (fun (c2 : 4 < v) => ?_) (fun (c2 : ¬ 4 < v) => ?_)
      · repeat refine Wp.p rfl ?_
        exact Wp.r rfl (Or.inl rfl) (h0 (fun z => Int32.not_lt.mpr (z.2.2.1 rfl).2 c2))
      · repeat refine Wp.p rfl ?_
        exact Wp.r rfl (Or.inr rfl) (h1 ⟨no _ _ _ (by decide), no _ _ _ (by decide), fun _ => ⟨Int32.not_lt.mp c, Int32.not_lt.mp c2⟩, no _ _ _ (by decide), no _ _ _ (by decide), no _ _ _ (by decide)⟩)
  · refine Wp.p rfl ?_
    refine Wp.p (pc' := 86) rfl ?_
    repeat refine Wp.p rfl ?_
    refine Wp.b rfl (fun (c : v < 5) => ?_) (fun (c : ¬ v < 5) => ?_)
    · repeat refine Wp.p rfl ?_
      exact Wp.r rfl (Or.inl rfl) (h0 (fun z => Int32.not_lt.mpr (z.2.2.2.1 rfl).1 c))
    · repeat refine Wp.p rfl ?_
      refine Wp.b rfl (fun (c2 : 9 < v) => ?_) (fun (c2 : ¬ 9 < v) => ?_)
      · repeat refine Wp.p rfl ?_
        exact Wp.r rfl (Or.inl rfl) (h0 (fun z => Int32.not_lt.mpr (z.2.2.2.1 rfl).2 c2))
      · repeat refine Wp.p rfl ?_
        exact Wp.r rfl (Or.inr rfl) (h1 ⟨no _ _ _ (by decide), no _ _ _ (by decide), no _ _ _ (by decide), fun _ => ⟨Int32.not_lt.mp c, Int32.not_lt.mp c2⟩, no _ _ _ (by decide), no _ _ _ (by decide)⟩)
  · refine Wp.p rfl ?_
    refine Wp.p (pc' := 103) rfl ?_
    repeat refine Wp.p rfl ?_
    refine Wp.b rfl (fun (c : v < 0) => ?_) (fun (c : ¬ v < 0) => ?_)
    · repeat refine Wp.p rfl ?_
      exact Wp.r rfl (Or.inl rfl) (h0 (fun z => Int32.not_lt.mpr (z.2.2.2.2.1 rfl).1 c))
    · repeat refine Wp.p rfl ?_
      refine Wp.b rfl (fun (c2 : 11 ≤ v) => ?_) (fun (c2 : ¬ 11 ≤ v) => ?_)
      · repeat refine Wp.p rfl ?_
        exact Wp.r rfl (Or.inl rfl) (h0 (fun z => Int32.not_le.mpr (z.2.2.2.2.1 rfl).2 c2))
      · repeat refine Wp.p rfl ?_
        exact Wp.r rfl (Or.inr rfl) (h1 ⟨no _ _ _ (by decide), no _ _ _ (by decide), no _ _ _ (by decide), no _ _ _ (by decide), fun _ => ⟨Int32.not_lt.mp c, Int32.not_le.mp c2⟩, no _ _ _ (by decide)⟩)
  · refine Wp.p rfl ?_
    refine Wp.p (pc' := 119) rfl ?_
    repeat refine Wp.p rfl ?_
    refine Wp.b rfl (fun (c : v < 0) => ?_) (fun (c : ¬ v < 0) => ?_)
    · repeat refine Wp.p rfl ?_
      exact Wp.r rfl (Or.inl rfl) (h0 (fun z => Int32.not_lt.mpr (z.2.2.2.2.2 rfl).1 c))
    · repeat refine Wp.p rfl ?_
      refine Wp.b rfl (fun (c2 : 32 < v) => ?_) (fun (c2 : ¬ 32 < v) => ?_)
      · repeat refine Wp.p rfl ?_
        exact Wp.r rfl (Or.inl rfl) (h0 (fun z => Int32.not_lt.mpr (z.2.2.2.2.2 rfl).2 c2))
      · repeat refine Wp.p rfl ?_
        exact Wp.r rfl (Or.inr rfl) (h1 ⟨no _ _ _ (by decide), no _ _ _ (by decide), no _ _ _ (by decide), no _ _ _ (by decide), no _ _ _ (by decide), fun _ => ⟨Int32.not_lt.mp c, Int32.not_lt.mp c2⟩⟩)
  · refine Wp.p rfl ?_
    refine Wp.p (pc' := 135) rfl ?_
    repeat refine Wp.p rfl ?_
    exact Wp.r rfl (Or.inr rfl) (h1 ⟨no _ _ _ (by decide), no _ _ _ (by decide), no _ _ _ (by decide), no _ _ _ (by decide), no _ _ _ (by decide), no _ _ _ (by decide)⟩)
