theorem s_m_come1 {d to : Nat} {S S1 : mS} {Q : mQ} {P : oP} {t : Nat → Int32} (hc : MI P S) (ht : ∀ v, v < 6 → S.2.2 370 v = t v) (hk : to < P.1) (hn : ∀ v, v < 6 → ¬ t v = 0) (hbe : BE P to t)
    (h : ∀ S', Gm S S' → MI P S' → (∀ v, S'.2.2 370 v = S.2.2 370 v) → oIn (mO S') to t → Q none S')
    (hF : Fr [269] [367] S S1) (h7 : ∀ s, (mO S1).2.2 s = true ↔ (mO S).2.2 s = true ∨ s = to) (h9 : S1.1 269 = 0 → S.1 269 = 0 ∧ (mO S).2.2 to = true) (h9' : ¬ S1.1 269 = 0 → ¬ S.1 269 = 0 ∨ ¬ (mO S).2.2 to = true) :
    ∀ S', jnm S1 to 6 S' → Q none S' := by
  intro S' hJ
  have hn32 := hc.1.1.1
  have a1 : S1.2.2 366 = S.2.2 366 := hF.2.2 _ (by decide)
  have a0 : S1.2.2 370 = S.2.2 370 := hF.2.2 _ (by decide)
  have a2 : S1.2.2 368 = S.2.2 368 := hF.2.2 _ (by decide)
  obtain ⟨jF, jq, jv, jz, jn⟩ := hJ
  have b2 : S'.2.2 368 = S.2.2 368 := (jF.2.2 _ (by decide)).trans a2
  have b0 : S'.2.2 370 = S.2.2 370 := (jF.2.2 _ (by decide)).trans a0
  have b7 : S'.2.2 367 = S1.2.2 367 := jF.2.2 _ (by decide)
  rw [a1] at jq
  rw [a1, a0] at jv jz jn
  have c7 : ∀ s, (mO S').2.2 s = true ↔ (mO S).2.2 s = true ∨ s = to := fun s => by
    rw [← h7 s, mO_c, mO_c, b7]
  have hFF : Fr [269] [366, 367, 368, 370] S S' := (hF.up (fun _ z => z) (by decide)).tr (jF.up (fun _ z => z) (by decide))
  have hle : oLe (mO S) (mO S') := by
    refine ⟨fun q _ => ?_, fun w _ => by show le (S.2.2 368 w) (S'.2.2 368 w); rw [b2]; exact le.rf, fun s _ e => (c7 s).mpr (Or.inl e)⟩
    show le (S.2.2 366 q) (S'.2.2 366 q)
    by_cases e : ∃ v, v < 6 ∧ q = 6 * to + v
    · obtain ⟨v, hv6, rfl⟩ := e
      rw [jv v hv6]
      exact le.orl
    · rw [jq q (fun v hv z => e ⟨v, hv, z⟩)]
      exact le.rf
  refine h S' ⟨hFF, hle, fun z => ?_, fun z => ?_⟩ ⟨hc.1.fr hFF (by decide) (by decide), ?_, fun s hs e => ?_⟩ (fun v => by rw [b0]) ⟨(c7 to).mpr (Or.inr rfl), fun v hv6 => ?_⟩
  · obtain ⟨y1, y2⟩ := jz z
    obtain ⟨y3, y4⟩ := h9 y1
    refine ⟨y3, fun q _ => ?_, fun w _ => by rw [b2], fun s _ e => ((c7 s).mp e).elim id (fun w => by rw [w]; exact y4)⟩
    by_cases e : ∃ v, v < 6 ∧ q = 6 * to + v
    · obtain ⟨v, hv6, rfl⟩ := e
      rw [jv v hv6]
      exact (y2 v hv6).or'
    · exact jq q (fun v hv z => e ⟨v, hv, z⟩)
  · rcases jn z with y | ⟨v, hv6, y⟩
    · rcases h9' y with x | x
      · exact Or.inl x
      · exact Or.inr (Or.inr ⟨to, by omega, (c7 to).mpr (Or.inr rfl), x⟩)
    · refine Or.inr (Or.inl (Or.inl ⟨6 * to + v, by omega, fun w => y (le.tr ?_ w)⟩))
      show le _ (S'.2.2 366 (6 * to + v))
      rw [jv v hv6]
      exact le.orr
  · refine hc.2.1.jn hbe (fun q hq' => ?_) (fun w _ => by show S'.2.2 368 w = S.2.2 368 w; rw [b2]) (fun s _ e => (c7 s).mp e)
    show S'.2.2 366 q = S.2.2 366 q ∨ _
    by_cases e : ∃ v, v < 6 ∧ q = 6 * to + v
    · obtain ⟨v, hv6, rfl⟩ := e
      refine Or.inr ⟨v, hv6, rfl, ?_⟩
      show S'.2.2 366 (6 * to + v) = S.2.2 366 (6 * to + v) ||| t v
      rw [jv v hv6, ht v hv6]
    · exact Or.inl (jq q (fun v hv z => e ⟨v, hv, z⟩))
  · by_cases e2 : s = to
    · subst e2
      refine ⟨hk, fun v hv6 => ?_⟩
      rw [jv v hv6, ht v hv6]
      exact le.ne le.orr (hn v hv6)
    · obtain ⟨x, y⟩ := hc.2.2 s hs (((c7 s).mp e).resolve_right e2)
      exact ⟨x, fun v hv6 => by rw [jq _ (fun w hw => by omega)]; exact y v hv6⟩
  · show le (t v) (S'.2.2 366 (6 * to + v))
    rw [jv v hv6, ht v hv6]
    exact le.orr
theorem s_m_comes {d : Nat} {S : mS} {Q : mQ} {P : oP} {to : Int32} {t : Nat → Int32} (hc : MI P S) (ht : ∀ v, v < 6 → S.2.2 370 v = t v) (h0 : 0 ≤ to) (hb' : to < nI P.1 → (∀ v, v < 6 → ¬ t v = 0) → BE P (tn to) t)
    (h : ∀ S', Gm S S' → MI P S' → (∀ v, S'.2.2 370 v = S.2.2 370 v) → (to < nI P.1 → (∀ v, v < 6 → ¬ t v = 0) → oIn (mO S') (tn to) t) → Q none S') : Ev d n_X6_comes [.ref 6, .int to] S Q := by
  have h241 := hc.1.2.1
  have hn32 := hc.1.1.1
  have k13 : ∀ z : Int32, z = bI (to < nI P.1) → Wp d n_X6_comes 13 [(0, .ref 6), (1, .int to)] [.int z] S Q := fun z hz => by
    rw [hz]
    iterate 3 refine Wp.p rfl ?_
    refine (?_ : Wp d n_X6_comes 16 [(3, .int (nI 0)), (2, .int (bI (to < nI P.1))), (0, .ref 6), (1, .int to)] [] S Q).sub (lS.mk rfl rfl (by repeat (first | exact lSub.nil | refine lSub.cons rfl ?_)))
    refine s_m_come_it (by omega) (s_m_come_it (by omega) (s_m_come_it (by omega) (s_m_come_it (by omega) (s_m_come_it (by omega) (s_m_come_it (by omega) ?_)))))
    iterate 2 refine Wp.p rfl ?_
    refine Wp.bT rfl (by decide) ?_
    by_cases c : to < nI P.1 ∧ ∀ v, v < 6 → ¬ t v = 0
    · have cc : (((((to < nI P.1 ∧ ¬ S.2.2 370 0 = 0) ∧ ¬ S.2.2 370 (0 + 1) = 0) ∧ ¬ S.2.2 370 (0 + 1 + 1) = 0) ∧ ¬ S.2.2 370 (0 + 1 + 1 + 1) = 0) ∧ ¬ S.2.2 370 (0 + 1 + 1 + 1 + 1) = 0) ∧ ¬ S.2.2 370 (0 + 1 + 1 + 1 + 1 + 1) = 0 := by
        have f : ∀ v, v < 6 → ¬ S.2.2 370 v = 0 := fun v hv => by rw [ht v hv]; exact c.2 v hv
        exact ⟨⟨⟨⟨⟨⟨c.1, f 0 (by decide)⟩, f 1 (by decide)⟩, f 2 (by decide)⟩, f 3 (by decide)⟩, f 4 (by decide)⟩, f 5 (by decide)⟩
      rw [bI_t cc]
      obtain ⟨k, hk0, rfl⟩ := nI_of (Int32.not_lt.mpr h0)
      have hk : k < P.1 := (nI_ltI hk0 (by omega)).mp c.1
      have tk : tn (nI k) = k := tn_nI hk0
      have ik : vp_in (nI k) 32 := vp_in_nI (N := 32) (by omega) (by omega)
      have hbe := hb' c.1 c.2
      rw [tk] at hbe h
      iterate 1 refine Wp.p rfl ?_
      refine Wp.bT rfl (by decide) ?_
      iterate 3 refine Wp.p rfl ?_
      refine Wp.g rfl ik ?_
      refine Wp.b rfl (fun (z : ¬ S.2.2 367 (tn (nI k)) = 0) => ?_) (fun (z : ¬ ¬ S.2.2 367 (tn (nI k)) = 0) => ?_)
      · rw [tk] at z
        iterate 2 refine Wp.p rfl ?_
        have := s_m_join (d := d) (z2 := 1) S (to := k) (by omega) (s_m_come1 (d := d) hc ht hk c.2 hbe (fun S' g m a i => h S' g m a (fun _ _ => i)) Fr.rf (fun s => ⟨Or.inl, fun y => y.elim id (fun w => by rw [w]; exact mO_c.mpr z)⟩) (fun y => ⟨y, mO_c.mpr z⟩) (fun y => Or.inl y)) 6 0 S (by omega) ⟨Fr.rf, fun _ _ => rfl, fun v hv => absurd hv (by omega), fun y => ⟨y, fun v hv => absurd hv (by omega)⟩, fun y => Or.inl y⟩
        exact this.sub (lS.mk rfl rfl (by repeat (first | exact lSub.nil | refine lSub.cons rfl ?_)))
      · rw [tk] at z
        have z0 : S.2.2 367 k = 0 := Decidable.not_not.mp z
        iterate 4 refine Wp.p rfl ?_
        refine Wp.g rfl ⟨Or.inr rfl, ik⟩ ?_
        iterate 2 refine Wp.p rfl ?_
        refine Wp.g rfl (Or.inr rfl) ?_
        iterate 2 refine Wp.p rfl ?_
        refine Wp.sub (ls := [(3, .int (nI 0)), (2, .int 1), (0, .ref 6), (1, .int (nI k))]) ?_ (lS.mk rfl rfl (by repeat (first | exact lSub.nil | refine lSub.cons rfl ?_)))
        show Wp d n_X6_comes 75 _ [] (sF (sA S 367 (tn (nI k)) 1) 269 1) Q
        rw [tk]
        refine s_m_join (d := d) (z2 := 1) (sF (sA S 367 k 1) 269 1) (to := k) (by omega) (s_m_come1 (d := d) (S1 := sF (sA S 367 k 1) 269 1) hc ht hk c.2 hbe (fun S' g m a i => h S' g m a (fun _ _ => i)) ((Fr.rf.a (by decide)).f (by decide)) (fun s => ?_) (fun y => absurd (show (1 : Int32) = 0 from y) (by decide)) (fun _ => Or.inr (fun y => mO_c.mp y z0))) 6 0 _ (by omega) ⟨Fr.rf, fun _ _ => rfl, fun v hv => absurd hv (by omega), fun y => ⟨y, fun v hv => absurd hv (by omega)⟩, fun y => Or.inl y⟩
        rw [mO_c, mO_c]
        show ¬ (sA S 367 k 1).2.2 367 s = 0 ↔ _
        rw [sA_at]
        by_cases e : s = k
        · rw [e, upd_at]; exact ⟨fun _ => Or.inr rfl, fun _ => by decide⟩
        · rw [upd_ne e]; exact ⟨Or.inl, fun y => y.resolve_right e⟩
    · have cc : ¬ ((((((to < nI P.1 ∧ ¬ S.2.2 370 0 = 0) ∧ ¬ S.2.2 370 (0 + 1) = 0) ∧ ¬ S.2.2 370 (0 + 1 + 1) = 0) ∧ ¬ S.2.2 370 (0 + 1 + 1 + 1) = 0) ∧ ¬ S.2.2 370 (0 + 1 + 1 + 1 + 1) = 0) ∧ ¬ S.2.2 370 (0 + 1 + 1 + 1 + 1 + 1) = 0) := fun z => c (by
        obtain ⟨⟨⟨⟨⟨⟨a, a0⟩, a1⟩, a2⟩, a3⟩, a4⟩, a5⟩ := z
        refine ⟨a, fun v hv => ?_⟩
        rw [← ht v hv]
        match v, hv with
        | 0, _ => exact a0
        | 1, _ => exact a1
        | 2, _ => exact a2
        | 3, _ => exact a3
        | 4, _ => exact a4
        | 5, _ => exact a5)
      rw [bI_f cc]
      iterate 1 refine Wp.p rfl ?_
      refine Wp.bF rfl (by decide) ?_
      exact Wp.r rfl trivial (h S (Gm.af Fr.rf) hc (fun _ => rfl) (fun a b => absurd ⟨a, b⟩ c))
  iterate 3 refine Wp.p rfl ?_
  refine Wp.b rfl (fun (c : S.1 241 ≤ to) => ?_) (fun (c : ¬ S.1 241 ≤ to) => ?_)
  · rw [h241] at c
    iterate 1 refine Wp.p rfl ?_
    exact k13 0 (bI_f (Int32.not_lt.mpr c)).symm
  · rw [h241] at c
    iterate 2 refine Wp.p rfl ?_
    exact k13 1 (bI_t (Int32.not_le.mp c)).symm
