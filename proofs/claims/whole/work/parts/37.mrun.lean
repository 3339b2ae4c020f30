theorem DQ.ex {S : mS} {k : Nat} {a b c : Int32} {Q : mQ} (h : DQ S k a b c Q) : DQ S k a b c (fun v S' => ∃ x, v = some (.int x) ∧ Q (some (.int x)) S') := fun S' h1 h2 h3 h4 => ⟨_, rfl, h S' h1 h2 h3 h4⟩
theorem q_oth {d k i : Nat} {S : mS} {Q : mQ} {a b c : Int32} (hi : i < 32) (hco : S.2.2 342 i = nI k) (h : Wp (d + 2) n_X6_doOther 6 (lv_args 0 [.ref 6, .int (nI i), .int a, .int b, .int c]) [.int (nI k)] S (fun v S' => ∃ x, v = some (.int x) ∧ Q (some (.int x)) S')) : Wp (d + 3) n_X6_doStep 556 [(4, .int c), (3, .int b), (2, .int a), (0, .ref 6), (1, .int (nI i))] [] S Q := by
  have ti : tn (nI i) = i := tn_nI (by omega)
  repeat refine Wp.p rfl ?_
  refine Wp.i rfl ?_
  repeat refine Wp.p rfl ?_
  refine Wp.g rfl (vp_in_nI (N := 32) hi (by omega)) ?_
  show Wp (d + 2) n_X6_doOther 6 (lv_args 0 [.ref 6, .int (nI i), .int a, .int b, .int c]) [.int (S.2.2 342 (tn (nI i)))] S _
  rw [ti, hco]
  refine h.mono (fun v S' hq => ?_)
  obtain ⟨x, rfl, hq⟩ := hq
  exact Wp.r rfl trivial hq
theorem q_10 {d k0 i : Nat} {S : mS} {Q : mQ} {a b c : Int32} (hW : WFk k0 (dV S)) (hw : wS 10 a b c) (h : DQ S 10 a b c Q) : Wp (d + 3) n_X6_doStep 35 [(4, .int c), (3, .int b), (2, .int a), (0, .ref 6), (1, .int (nI i))] [.int (nI 10)] S Q := by
  refine Wp.p (pc' := 480) rfl ?_
  repeat refine Wp.p rfl ?_
  refine Wp.i rfl (s_m_store hW hw (fun S' h1 h2 h3 h4 => ?_))
  exact Wp.r rfl trivial (h S' h1 h2 h3 h4)
theorem q_22 {d k0 i : Nat} {S : mS} {Q : mQ} {a b c : Int32} (hW : WFk k0 (dV S)) (hw : wS 22 a b c) (h : DQ S 22 a b c Q) : Wp (d + 2) n_X6_doOther 6 (lv_args 0 [.ref 6, .int (nI i), .int a, .int b, .int c]) [.int (nI 22)] S Q := by
  refine Wp.p (pc' := 378) rfl ?_
  repeat refine Wp.p rfl ?_
  refine Wp.i rfl (s_m_copy hW hw (fun S' h1 h2 h3 h4 => ?_))
  exact Wp.r rfl trivial (h S' h1 h2 h3 h4)
theorem q_all {d k0 i k : Nat} {S : mS} {Q : mQ} {a b c : Int32} (hW : WFk k0 (dV S)) (hi : i < 32) (hco : S.2.2 342 i = nI k) (hw : wS k a b c) (h : DQ S k a b c Q) : Wp (d + 3) n_X6_doStep 35 [(4, .int c), (3, .int b), (2, .int a), (0, .ref 6), (1, .int (nI i))] [.int (nI k)] S Q := by
  have hk := hw.1
  match k, hk, hco, hw, h with
  | 0, _, hco, hw, h => exact q_0 hw h
  | 1, _, hco, hw, h => exact q_1 hW hw h
  | 2, _, hco, hw, h => exact q_2 hW hw h
  | 3, _, hco, hw, h => exact q_3 hw h
  | 4, _, hco, hw, h => exact q_4 hW hw h
  | 5, _, hco, hw, h => exact q_5 hW hw h
  | 6, _, hco, hw, h => exact q_6 hW hw h
  | 7, _, hco, hw, h => exact q_7 hW hw h
  | 8, _, hco, hw, h => exact q_8 hW hw h
  | 9, _, hco, hw, h => exact q_9 hW hw h
  | 10, _, hco, hw, h => exact q_10 hW hw h
  | 11, _, hco, hw, h => exact q_11 hW hi hco hw h
  | 12, _, hco, hw, h => exact q_12 hW hi hco hw h
  | 13, _, hco, hw, h => exact Wp.p (pc' := 556) rfl (q_oth hi hco (q_13 hW hw h.ex))
  | 14, _, hco, hw, h => exact Wp.p (pc' := 556) rfl (q_oth hi hco (q_14 hW hw h.ex))
  | 15, _, hco, hw, h => exact Wp.p (pc' := 556) rfl (q_oth hi hco (q_15 hW hw h.ex))
  | 16, _, hco, hw, h => exact Wp.p (pc' := 556) rfl (q_oth hi hco (q_16 hw h.ex))
  | 17, _, hco, hw, h => exact Wp.p (pc' := 556) rfl (q_oth hi hco (q_17 hw h.ex))
  | 18, _, hco, hw, h => exact Wp.p (pc' := 556) rfl (q_oth hi hco (q_18 hw h.ex))
  | 19, _, hco, hw, h => exact Wp.p (pc' := 556) rfl (q_oth hi hco (q_19 hw h.ex))
  | 20, _, hco, hw, h => exact Wp.p (pc' := 556) rfl (q_oth hi hco (q_20 hw h.ex))
  | 21, _, hco, hw, h => exact Wp.p (pc' := 556) rfl (q_oth hi hco (q_21 hw h.ex))
  | 22, _, hco, hw, h => exact Wp.p (pc' := 556) rfl (q_oth hi hco (q_22 hW hw h.ex))
  | 23, _, hco, hw, h => exact Wp.p (pc' := 556) rfl (q_oth hi hco (q_23 hw h.ex))
  | k + 24, hk, _, _, _ => exact absurd hk (by omega)
theorem s_m_doStep {d k0 i k : Nat} {S : mS} {Q : mQ} (hW : WFk k0 (dV S)) (hi : i < 32) (hco : S.2.2 342 i = nI k) (hw : wS k (S.2.2 343 i) (S.2.2 344 i) (S.2.2 345 i)) (h : DQ (sF S 264 (nI (i + 1))) k (S.2.2 343 i) (S.2.2 344 i) (S.2.2 345 i) Q) : Ev (d + 3) n_X6_doStep [.ref 6, .int (nI i)] S Q := by
  have ti : tn (nI i) = i := tn_nI (by omega)
  have hin := vp_in_nI (N := 32) hi (by omega)
  repeat refine Wp.p rfl ?_
  refine Wp.g rfl hin ?_
  repeat refine Wp.p rfl ?_
  refine Wp.g rfl hin ?_
  repeat refine Wp.p rfl ?_
  refine Wp.g rfl hin ?_
  repeat refine Wp.p rfl ?_
  refine Wp.g rfl hin ?_
  show Wp (d + 3) n_X6_doStep 35 [(4, .int (S.2.2 345 (tn (nI i)))), (3, .int (S.2.2 344 (tn (nI i)))), (2, .int (S.2.2 343 (tn (nI i)))), (0, .ref 6), (1, .int (nI i))] [.int (S.2.2 342 (tn (nI i)))] (sF S 264 (nI i + 1)) Q
  rw [ti, nI_1, hco]
  exact q_all (S := sF S 264 (nI (i + 1))) hW hi hco hw h
theorem ix6 (a b : Nat) : 6 * nI a + nI b = nI (6 * a + b) := by
  rw [show (6 : Int32) = nI 6 from rfl, pk_mul, nI_add]
theorem s_m_note {d k0 i : Nat} {Q : mQ} {ho ma on : Int32} (hi : i < 32) (S0 : mS) (hW : WFk k0 (dV S0)) (hQ : ∀ S', Fr [] [347] S0 S' → S'.2.2 347 = ntF (S0.2.2 347) (dV S0) i 6 → Wp (d + 1) n_X6_run 177 [(3, .int (nI i)), (4, .int ho), (5, .int ma), (6, .int on), (0, .ref 6)] [] S' Q) : ∀ (n v : Nat) (S : mS), v + n = 6 → Fr [] [347] S0 S → S.2.2 347 = ntF (S0.2.2 347) (dV S0) i v →
    Wp (d + 1) n_X6_run 141 [(7, .int (nI v)), (3, .int (nI i)), (4, .int ho), (5, .int ma), (6, .int on), (0, .ref 6)] [] S Q := by
  intro n
  induction n with
  | zero =>
    intro v S hv hF hC
    obtain rfl : v = 6 := by omega
    iterate 2 refine Wp.p rfl ?_
    refine Wp.b rfl (fun _ => ?_) (fun (c : ¬ (6 : Int32) ≤ nI 6) => absurd (by decide) c)
    refine (hQ S hF hC).sub (lS.mk rfl rfl ?_)
    repeat (first | exact lSub.nil | refine lSub.cons rfl ?_)
  | succ n ih =>
    intro v S hv hF hC
    have hlt : v < 6 := by omega
    have tv : tn (nI v) = v := tn_nI (by omega)
    have ecv : dV S = dV S0 := by
      unfold dV
      rw [hF.2.2 361 (by decide), hF.2.2 362 (by decide), hF.2.2 357 (by decide), hF.2.2 359 (by decide), hF.2.2 358 (by decide), hF.2.2 360 (by decide), hF.2.2 365 (by decide), hF.1 256 (by decide)]
    have hWS : WFk k0 (dV S) := by rw [ecv]; exact hW
    have hin : vp_in (6 * nI i + nI v) 192 := by rw [ix6]; exact vp_in_nI (by omega) (by omega)
    iterate 2 refine Wp.p rfl ?_
    refine Wp.b rfl (fun (c : (6 : Int32) ≤ nI v) => absurd c (nI_ge (b := 6) hlt (by decide))) (fun _ => ?_)
    repeat refine Wp.p rfl ?_
    refine Wp.g rfl hin ?_
    repeat refine Wp.p rfl ?_
    refine Wp.i rfl (s_m_kind hWS ⟨nI_pos' (by omega), nI_lt (b := 6) hlt (by decide)⟩ ?_)
    iterate 2 refine Wp.p rfl ?_
    refine Wp.g rfl hin ?_
    iterate 2 refine Wp.p rfl ?_
    show Wp (d + 1) n_X6_run 141 [(7, .int (nI v + 1)), (3, .int (nI i)), (4, .int ho), (5, .int ma), (6, .int on), (0, .ref 6)] [] _ Q
    rw [nI_1]
    refine ih (v + 1) _ (by omega) (hF.a (by decide)) ?_
    show upd (S.2.2 347) (tn (6 * nI i + nI v)) (S.2.2 347 (tn (6 * nI i + nI v)) ||| 1 <<< (kd (dV S) (S.2.2 361 (tn (nI v))) &&& 31)) = _
    rw [ix6, tn_nI (by omega), tv, hC, ecv, hF.2.2 361 (by decide)]
    rfl
abbrev dFS : List Nat := [252, 253, 254, 255, 256, 264]
abbrev dAS : List Nat := [361, 362, 357, 358, 359, 360, 365, 347, 348]
/-- as the model stands in a run -/
def dI (S0 S : mS) (dn : Nat) (m : mM) (sn hd : Nat → Int32) : Prop := Fr dFS dAS S0 S ∧ dV S = m ∧ S.1 252 = nI dn ∧ S.1 253 = 0 ∧ S.1 254 = 0 ∧ S.1 255 = -3 ∧ S.2.2 347 = sn ∧ S.2.2 348 = hd
/-- as the model leaves a run -/
def dE (S0 S : mS) (r : rR) : Prop := Fr dFS dAS S0 S ∧ S.1 252 = nI r.2.1 ∧ S.1 253 = r.2.2.1 ∧ S.1 254 = r.2.2.2.1 ∧ S.1 255 = r.2.2.2.2.1 ∧ dV S = r.2.2.2.2.2.1 ∧ S.2.2 347 = r.2.2.2.2.2.2.1 ∧ S.2.2 348 = r.2.2.2.2.2.2.2
abbrev dP (S : mS) (n : Nat) : Prop := S.1 241 = nI n ∧ PW n (S.2.2 342) (S.2.2 343) (S.2.2 344) (S.2.2 345) (S.2.2 346)
theorem s_m_exit {d : Nat} {S : mS} {Q : mQ} {s ma ho on : Int32} (hx : on = 0 ∨ S.1 241 ≤ s) (h : Wp d n_X6_run 276 [(4, .int ho), (0, .ref 6)] [] S Q) : Wp d n_X6_run 96 [(3, .int s), (4, .int ho), (5, .int ma), (6, .int on), (0, .ref 6)] [] S Q := by
  have fin : Wp d n_X6_run 276 [(3, .int s), (4, .int ho), (5, .int ma), (6, .int on), (0, .ref 6)] [] S Q := by
    refine h.sub (lS.mk rfl rfl ?_)
    repeat (first | exact lSub.nil | refine lSub.cons rfl ?_)
  iterate 1 refine Wp.p rfl ?_
  refine Wp.b rfl (fun _ => fin) (fun (c : ¬ on = 0) => ?_)
  iterate 3 refine Wp.p rfl ?_
  refine Wp.b rfl (fun _ => fin) (fun (c2 : ¬ S.1 241 ≤ s) => absurd hx (fun z => z.elim c c2))
theorem fit_S {v : Int32} {ch : Int32} (hc : ch = 83) (h : fitL ch v) : ∃ i, i ≤ 32 ∧ v = nI i := by
  obtain ⟨h1, h2⟩ := h.2.2.2.2.2 hc
  obtain ⟨t, -, t2, e⟩ := of_rng (lo := 0) (hi := 32) rfl rfl (by decide) (by decide) h1 h2
  exact ⟨t, t2, e⟩
theorem nx_rng {m : mM} {k i : Nat} {a b c : Int32} (hw : wS k a b c) (hi : i < 32) : ∃ j, j ≤ 32 ∧ nxS m k a b c (nI (i + 1)) = nI j := by
  have d0 : ∃ j, j ≤ 32 ∧ nI (i + 1) = nI j := ⟨i + 1, by omega, rfl⟩
  unfold nxS
  split
  · split
    · exact fit_S rfl hw.2.2.2
    · exact d0
  · split
    · exact fit_S rfl hw.2.2.2
    · exact d0
  · split
    · exact fit_S rfl hw.2.2.2
    · exact d0
  · exact fit_S rfl hw.2.1
  · exact d0
theorem dV_fr {S S' : mS} {fs as : List Nat} (hF : Fr fs as S S') (h1 : 256 ∉ fs) (h2 : 361 ∉ as) (h3 : 362 ∉ as) (h4 : 357 ∉ as) (h5 : 359 ∉ as) (h6 : 358 ∉ as) (h7 : 360 ∉ as) (h8 : 365 ∉ as) : dV S' = dV S := by
  unfold dV
  rw [hF.2.2 361 h2, hF.2.2 362 h3, hF.2.2 357 h4, hF.2.2 359 h5, hF.2.2 358 h6, hF.2.2 360 h7, hF.2.2 365 h8, hF.1 256 h1]
set_option maxHeartbeats 2000000 in
theorem s_m_loop {d n : Nat} {Q : mQ} (S0 : mS) (hP : dP S0 n) : ∀ (left dn many k0 i : Nat) (m : mM) (sn hd : Nat → Int32) (S : mS), dn + left = 200 → many ≤ 8 → i ≤ 32 → WFk k0 m → dI S0 S dn m sn hd → (∀ S', dE S0 S' (rnF n (S0.2.2 342) (S0.2.2 343) (S0.2.2 344) (S0.2.2 345) (S0.2.2 346) left dn (nI i) many m sn hd) → Wp (d + 4) n_X6_run 276 [(4, .int (rnF n (S0.2.2 342) (S0.2.2 343) (S0.2.2 344) (S0.2.2 345) (S0.2.2 346) left dn (nI i) many m sn hd).1), (0, .ref 6)] [] S' Q) →
    Wp (d + 4) n_X6_run 96 [(3, .int (nI i)), (4, .int 0), (5, .int (nI many)), (6, .int 1), (0, .ref 6)] [] S Q := by
  intro left
  induction left with
  | zero =>
    intro dn many k0 i m sn hd S hdn hmany hi32 hW hI hQ
    obtain ⟨hF, i1, i2, i3, i4, i5, i6, i7⟩ := hI
    obtain rfl : dn = 200 := by omega
    have hn := hP.2.1
    have h241 : S.1 241 = nI n := (hF.1 241 (by decide)).trans hP.1
    by_cases c : i < n
    · have c' : 0 ≤ nI i ∧ nI i < nI n := ⟨nI_pos' (by omega), nI_lt c (by omega)⟩
      have e : rnF n (S0.2.2 342) (S0.2.2 343) (S0.2.2 344) (S0.2.2 345) (S0.2.2 346) 0 200 (nI i) many m sn hd = (2, 200, 0, 0, -3, m, sn, hd) := if_pos c'
      rw [e] at hQ
      iterate 1 refine Wp.p rfl ?_
      refine Wp.b rfl (fun (z : (1 : Int32) = 0) => absurd z (by decide)) (fun _ => ?_)
      iterate 3 refine Wp.p rfl ?_
      refine Wp.b rfl (fun (z : S.1 241 ≤ nI i) => absurd (h241 ▸ z) (nI_ge c (by omega))) (fun _ => ?_)
      iterate 3 refine Wp.p rfl ?_
      refine Wp.b rfl (fun (z : ¬ S.1 252 = 200) => absurd i2 z) (fun _ => ?_)
      iterate 5 refine Wp.p rfl ?_
      refine (s_m_exit (s := nI i) (ma := nI many) (ho := 2) (on := 0) (Or.inl rfl) (hQ S ⟨hF, i2, i3, i4, i5, i1, i6, i7⟩)).sub (lS.mk rfl rfl ?_)
      repeat (first | exact lSub.nil | refine lSub.cons rfl ?_)
    · have c' : ¬ (0 ≤ nI i ∧ nI i < nI n) := fun z => c ((nI_ltI (by omega) (by omega)).mp z.2)
      have e : rnF n (S0.2.2 342) (S0.2.2 343) (S0.2.2 344) (S0.2.2 345) (S0.2.2 346) 0 200 (nI i) many m sn hd = (0, 200, 0, 0, -3, m, sn, hd) := if_neg c'
      rw [e] at hQ
      exact s_m_exit (Or.inr (by rw [h241]; exact nI_le (by omega) (by omega))) (hQ S ⟨hF, i2, i3, i4, i5, i1, i6, i7⟩)
  | succ left ih =>
    intro dn many k0 i m sn hd S hdn hmany hi32 hW hI hQ
    obtain ⟨hF, i1, i2, i3, i4, i5, i6, i7⟩ := hI
    have hn := hP.2.1
    have h241 : S.1 241 = nI n := (hF.1 241 (by decide)).trans hP.1
    by_cases c : i < n
    case neg =>
      have c' : ¬ (0 ≤ nI i ∧ nI i < nI n) := fun z => c ((nI_ltI (by omega) (by omega)).mp z.2)
      have e : rnF n (S0.2.2 342) (S0.2.2 343) (S0.2.2 344) (S0.2.2 345) (S0.2.2 346) (left + 1) dn (nI i) many m sn hd = (0, dn, 0, 0, -3, m, sn, hd) := if_neg c'
      rw [e] at hQ
      exact s_m_exit (Or.inr (by rw [h241]; exact nI_le (by omega) (by omega))) (hQ S ⟨hF, i2, i3, i4, i5, i1, i6, i7⟩)
    have c' : 0 ≤ nI i ∧ nI i < nI n := ⟨nI_pos' (by omega), nI_lt c (by omega)⟩
    have tis : tn (nI i) = i := tn_nI (by omega)
    obtain ⟨⟨k, hk, hw⟩, hh1, hh2⟩ := hP.2.2 i c
    have hk24 := hw.1
    have tk : tn (S0.2.2 342 i) = k := by rw [hk]; exact tn_nI (by omega)
    obtain ⟨k', hW'⟩ := WF_do hW hw
    have eR : rnF n (S0.2.2 342) (S0.2.2 343) (S0.2.2 344) (S0.2.2 345) (S0.2.2 346) (left + 1) dn (nI i) many m sn hd = _ := if_pos c'
    rw [tis, tk] at eR
    iterate 1 refine Wp.p rfl ?_
    refine Wp.b rfl (fun (z : (1 : Int32) = 0) => absurd z (by decide)) (fun _ => ?_)
    iterate 3 refine Wp.p rfl ?_
    refine Wp.b rfl (fun (z : S.1 241 ≤ nI i) => absurd (h241 ▸ z) (nI_ge c (by omega))) (fun _ => ?_)
    iterate 3 refine Wp.p rfl ?_
    refine Wp.b rfl (fun _ => ?_) (fun (z : ¬ ¬ S.1 252 = 200) => absurd (fun z => absurd ((nI_eq (a := dn) (b := 200) (by omega) (by decide)).mp (i2.symm.trans z)) (by omega)) z)
    iterate 8 refine Wp.p rfl ?_
    show Wp (d + 4) n_X6_run 141 _ _ (sF S 252 (S.1 252 + 1)) Q
    rw [i2, nI_1]
    have hFa : Fr dFS dAS S0 (sF S 252 (nI (dn + 1))) := hF.f (by decide)
    have ha1 : dV (sF S 252 (nI (dn + 1))) = m := i1
    refine (s_m_note (d := d + 3) (k0 := k0) (i := i) (ho := 0) (ma := nI many) (on := 1) (by omega) (sF S 252 (nI (dn + 1))) (by rw [ha1]; exact hW) (fun S2 hF2 h347 => ?_) 6 0 _ (by omega) Fr.rf rfl).sub (lS.mk rfl rfl (by repeat (first | exact lSub.nil | refine lSub.cons rfl ?_)))
    rw [ha1] at h347
    have h347' : S2.2.2 347 = ntF sn m i 6 := by rw [h347]; show ntF (S.2.2 347) m i 6 = _; rw [i6]
    have hFb : Fr dFS dAS S0 S2 := hFa.tr (hF2.up (by decide) (by decide))
    have hb1 : dV S2 = m := (dV_fr hF2 (by decide) (by decide) (by decide) (by decide) (by decide) (by decide) (by decide) (by decide)).trans ha1
    have p0 : S2.2.2 342 = S0.2.2 342 := hFb.2.2 342 (by decide)
    have p1 : S2.2.2 343 = S0.2.2 343 := hFb.2.2 343 (by decide)
    have p2 : S2.2.2 344 = S0.2.2 344 := hFb.2.2 344 (by decide)
    have p3 : S2.2.2 345 = S0.2.2 345 := hFb.2.2 345 (by decide)
    iterate 2 refine Wp.p rfl ?_
    refine Wp.i rfl (s_m_doStep (k0 := k0) (k := k) (by rw [hb1]; exact hW) (by omega) (by rw [p0]; exact hk) (by rw [p1, p2, p3]; exact hw) ?_)
    rw [p1, p2, p3]
    intro S3 hF3 e3 e264 e253
    have hb2 : dV (sF S2 264 (nI (i + 1))) = m := hb1
    rw [hb2] at e3 e264 e253 ⊢
    have hFc : Fr dFS dAS S0 S3 := (hFb.f (q := 264) (x := nI (i + 1)) (by decide)).tr (hF3.up (by decide) (by decide))
    have c252 : S3.1 252 = nI (dn + 1) := (hF3.1 252 (by decide)).trans (hF2.1 252 (by decide))
    have c254 : S3.1 254 = 0 := ((hF3.1 254 (by decide)).trans (hF2.1 254 (by decide))).trans i4
    have c255 : S3.1 255 = -3 := ((hF3.1 255 (by decide)).trans (hF2.1 255 (by decide))).trans i5
    have c347 : S3.2.2 347 = ntF sn m i 6 := (hF3.2.2 347 (by decide)).trans h347'
    have c348 : S3.2.2 348 = hd := ((hF3.2.2 348 (by decide)).trans (hF2.2.2 348 (by decide))).trans i7
    have c253a : S2.1 253 = 0 := (hF2.1 253 (by decide)).trans i3
    have e253' : S3.1 253 = (if k = 23 then gN m (tn (S0.2.2 343 i)) else 0) := by rw [e253]; show (if k = 23 then _ else S2.1 253) = _; rw [c253a]
    have e264' : S3.1 264 = (if k = 23 then 32 else nxS m k (S0.2.2 343 i) (S0.2.2 344 i) (S0.2.2 345 i) (nI (i + 1))) := e264
    iterate 2 refine Wp.p rfl ?_
    by_cases f0 : (doS m k (S0.2.2 343 i) (S0.2.2 344 i) (S0.2.2 345 i)).1 = 0
    · rw [if_pos f0] at eR
      refine Wp.b rfl (fun (z : ¬ (doS m k (S0.2.2 343 i) (S0.2.2 344 i) (S0.2.2 345 i)).1 = 0) => absurd f0 z) (fun _ => ?_)
      iterate 5 refine Wp.p rfl ?_
      by_cases k23 : k = 23
      · rw [if_pos k23] at eR e253' e264'
        rw [eR] at hQ
        refine (s_m_exit (s := S3.1 264) (ma := nI many) (ho := 0) (on := 1) (Or.inr ?_) (hQ S3 ⟨hFc, c252, e253', c254, c255, e3, c347, c348⟩)).sub (lS.mk rfl rfl ?_)
        · rw [e264', (hFc.1 241 (by decide)).trans hP.1]
          exact nI_le (b := 32) (by omega) (by decide)
        · repeat (first | exact lSub.nil | refine lSub.cons rfl ?_)
      · rw [if_neg k23] at eR e253' e264'
        obtain ⟨j, hj, ej⟩ := nx_rng (m := m) hw (i := i) (by omega)
        rw [nI_1] at eR
        rw [ej] at eR e264'
        rw [eR] at hQ
        refine (ih (dn + 1) many k' j _ _ _ S3 (by omega) hmany hj hW' ⟨hFc, e3, c252, e253', c254, c255, c347, c348⟩ hQ).sub (lS.mk rfl rfl ?_)
        rw [← e264']
        repeat (first | exact lSub.nil | refine lSub.cons rfl ?_)
    · rw [if_neg f0] at eR
      have k23 : ¬ k = 23 := fun z => f0 (by subst z; rfl)
      rw [if_neg k23] at e253' e264'
      refine Wp.b rfl (fun _ => ?_) (fun (z : ¬ ¬ (doS m k (S0.2.2 343 i) (S0.2.2 344 i) (S0.2.2 345 i)).1 = 0) => absurd f0 z)
      generalize hf : (doS m k (S0.2.2 343 i) (S0.2.2 344 i) (S0.2.2 345 i)).1 = f at *
      repeat refine Wp.p rfl ?_
      refine Wp.g rfl (vp_in_nI (N := 32) (by omega) (by omega)) ?_
      iterate 4 refine Wp.p rfl ?_
      refine Wp.g rfl (vp_in_nI (N := 32) (by omega) (by omega)) ?_
      iterate 3 refine Wp.p rfl ?_
      have e348 : ∀ S' : mS, S' = sA S3 348 (tn (nI i)) (S3.2.2 348 (tn (nI i)) ||| 1 <<< (f &&& 31)) → S' = sA S3 348 i (hd i ||| 1 <<< (f &&& 31)) := fun S' z => by rw [z, tis, c348]
      rw [show ((S3.1, S3.2.1, va_up S3.2.2 348 (upd (S3.2.2 348) (nI i).toNatClampNeg (m_ld S3 348 (nI i) ||| 1 <<< (f &&& 31)))) : mS) = sA S3 348 i (hd i ||| 1 <<< (f &&& 31)) from e348 _ rfl]
      have hFd : Fr dFS dAS S0 (sA S3 348 i (hd i ||| 1 <<< (f &&& 31))) := hFc.a (by decide)
      have d348 : (sA S3 348 i (hd i ||| 1 <<< (f &&& 31))).2.2 348 = upd hd i (hd i ||| 1 <<< (f &&& 31)) := by
        show upd (S3.2.2 348) i _ = _
        rw [c348]
      have d346 : (sA S3 348 i (hd i ||| 1 <<< (f &&& 31))).2.2 346 = S0.2.2 346 := hFd.2.2 346 (by decide)
      by_cases h8 : 8 ≤ many
      · rw [if_pos h8] at eR
        rw [eR] at hQ
        have em : nI many + 1 = 9 := by rw [nI_1, show many = 8 by omega]; rfl
        refine Wp.b rfl (fun (z : ¬ nI many + 1 = 9) => absurd em z) (fun _ => ?_)
        iterate 6 refine Wp.p rfl ?_
        refine (s_m_exit (s := nI i) (ma := nI many + 1) (ho := 2) (on := 0) (Or.inl rfl) (hQ _ ⟨hFd, c252, e253', c254, c255, e3, c347, d348⟩)).sub (lS.mk rfl rfl ?_)
        repeat (first | exact lSub.nil | refine lSub.cons rfl ?_)
      · rw [if_neg h8] at eR
        have em : ¬ nI many + 1 = 9 := fun z => by
          rw [nI_1] at z
          have := (nI_eq (a := many + 1) (b := 9) (by omega) (by decide)).mp z
          omega
        refine Wp.b rfl (fun _ => ?_) (fun (z : ¬ ¬ nI many + 1 = 9) => absurd em z)
        repeat refine Wp.p rfl ?_
        refine Wp.g rfl (vp_in_nI (N := 32) (by omega) (by omega)) ?_
        have h346 : S3.2.2 346 (tn (nI i)) = S0.2.2 346 i := by rw [tis]; exact congrFun (hFc.2.2 346 (by decide)) i
        by_cases hh : S0.2.2 346 i < 0
        · rw [if_pos hh] at eR
          rw [eR] at hQ
          refine Wp.b rfl (fun (z : 0 ≤ S3.2.2 346 (tn (nI i))) => absurd (h346 ▸ z) (Int32.not_le.mpr hh)) (fun _ => ?_)
          iterate 12 refine Wp.p rfl ?_
          refine (s_m_exit (s := nI i) (ma := nI many + 1) (ho := 1) (on := 0) (Or.inl rfl) (hQ (sF (sF (sA S3 348 i (hd i ||| 1 <<< (f &&& 31))) 254 f) 255 (nI i)) ⟨(hFd.f (by decide)).f (by decide), c252, e253', rfl, rfl, e3, c347, d348⟩)).sub (lS.mk rfl rfl ?_)
          repeat (first | exact lSub.nil | refine lSub.cons rfl ?_)
        · rw [if_neg hh] at eR
          obtain ⟨-, -⟩ := And.intro hh1 hh2
          obtain ⟨j, -, hj, ej⟩ := of_rng (lo := 0) (hi := 32) rfl rfl (by decide) (by decide) (Int32.not_lt.mp hh) hh2
          rw [ej] at eR
          rw [eR] at hQ
          refine Wp.b rfl (fun _ => ?_) (fun (z : ¬ 0 ≤ S3.2.2 346 (tn (nI i))) => absurd (by rw [h346]; exact Int32.not_lt.mp hh) z)
          iterate 4 refine Wp.p rfl ?_
          refine Wp.g rfl (show vp_in 2 4 by unfold vp_in; decide) ?_
          repeat refine Wp.p rfl ?_
          refine Wp.g rfl (vp_in_nI (N := 32) (by omega) (by omega)) ?_
          iterate 2 refine Wp.p rfl ?_
          refine (ih (dn + 1) (many + 1) k' j _ _ _ (sA (sA S3 348 i (hd i ||| 1 <<< (f &&& 31))) 362 2 f) (by omega) (by omega) hj (WF_N hW') ⟨hFd.a (by decide), ?_, c252, e253', c254, c255, c347, d348⟩ hQ).sub (lS.mk rfl rfl ?_)
          · rw [← e3]
            rfl
          · rw [← nI_1, ← ej, ← h346]
            repeat (first | exact lSub.nil | refine lSub.cons rfl ?_)
theorem s_m_vars {d : Nat} {Q : mQ} {x y : Int32} (S0 : mS) (hQ : ∀ S', Fr [] [361] S0 S' → S'.2.2 361 = fillC (S0.2.2 361) 0 (-1) 6 → Wp d n_X6_run 57 [(3, .int (nI 6)), (0, .ref 6), (1, .int x), (2, .int y)] [] S' Q) : ∀ (k j : Nat) (S : mS), j + k = 6 → Fr [] [361] S0 S → S.2.2 361 = fillC (S0.2.2 361) 0 (-1) j →
    Wp d n_X6_run 38 [(3, .int (nI j)), (0, .ref 6), (1, .int x), (2, .int y)] [] S Q := by
  intro k
  induction k with
  | zero =>
    intro j S hj hF hC
    obtain rfl : j = 6 := by omega
    iterate 2 refine Wp.p rfl ?_
    refine Wp.b rfl (fun _ => ?_) (fun (c : ¬ (6 : Int32) ≤ nI 6) => absurd (by decide) c)
    exact hQ S hF hC
  | succ k ih =>
    intro j S hj hF hC
    have hlt : j < 6 := by omega
    iterate 2 refine Wp.p rfl ?_
    refine Wp.b rfl (fun (c : (6 : Int32) ≤ nI j) => absurd c (nI_ge (b := 6) hlt (by decide))) (fun _ => ?_)
    repeat refine Wp.p rfl ?_
    refine Wp.g rfl (vp_in_nI (N := 6) hlt (by omega)) ?_
    iterate 2 refine Wp.p rfl ?_
    show Wp d n_X6_run 38 [(3, .int (nI j + 1)), (0, .ref 6), (1, .int x), (2, .int y)] [] _ Q
    rw [nI_1]
    refine ih (j + 1) _ (by omega) (hF.a (by decide)) ?_
    show upd (S.2.2 361) (nI j).toNatClampNeg (-1) = upd (fillC (S0.2.2 361) 0 (-1) j) (0 + j) (-1)
    rw [nI_clamp (by omega), hC, Nat.zero_add]
theorem num4 (f : Nat → Int32) (x y : Int32) : upd (upd (upd (upd f 0 x) 1 y) 2 0) 3 0 = upd (upd (fillC f 0 0 4) 0 x) 1 y := by
  funext q
  match q with
  | 0 => rfl
  | 1 => rfl
  | 2 => rfl
  | 3 => rfl
  | q + 4 => rfl
/-- the run of the model's program from its state -/
abbrev rnD (S : mS) (n : Nat) (x y : Int32) : rR := rnF n (S.2.2 342) (S.2.2 343) (S.2.2 344) (S.2.2 345) (S.2.2 346) 200 0 0 0 (m0F (dV S) x y) (S.2.2 347) (S.2.2 348)
/-- as the model stands behind a run r -/
def dR (S S' : mS) (r : rR) : Prop := Fm (240 :: 250 :: 251 :: dFS) dAS S S' ∧ S'.1 240 = 0 ∧ S'.1 251 = 1 ∧ S'.1 250 = S.1 250 + 1 ∧ S'.2.1 = S.2.1 + (nI r.2.1).toInt64 ∧ S'.1 252 = nI r.2.1 ∧ S'.1 253 = r.2.2.1 ∧ S'.1 254 = r.2.2.2.1 ∧ S'.1 255 = r.2.2.2.2.1 ∧ dV S' = r.2.2.2.2.2.1 ∧ S'.2.2 347 = r.2.2.2.2.2.2.1 ∧ S'.2.2 348 = r.2.2.2.2.2.2.2
theorem s_D_run {d n : Nat} {S : mS} {Q : mQ} {x y : Int32} (hP : dP S n) (h : ∀ S', dR S S' (rnD S n x y) → Q (some (.int (rnD S n x y).1)) S') : Ev (d + 4) n_X6_run [.ref 6, .int x, .int y] S Q := by
  repeat refine Wp.p rfl ?_
  refine Wp.g rfl (Or.inr rfl) ?_
  iterate 17 refine Wp.p rfl ?_
  have hF0 : Fr [240, 250, 251, 252, 253, 254, 255, 256, 264] dAS S (sF (sF (sF (sF (sF (sF (sF S 240 0) 251 1) 252 0) 253 0) 254 0) 255 (-3)) 256 0) := (((((((Fr.rf (S := S)).f (by decide)).f (by decide)).f (by decide)).f (by decide)).f (by decide)).f (by decide)).f (by decide)
  refine s_m_vars (x := x) (y := y) _ (fun S1 hF1 h361 => ?_) 6 0 _ (by omega) Fr.rf rfl
  repeat refine Wp.p rfl ?_
  refine Wp.g rfl (show vp_in 0 4 by unfold vp_in; decide) ?_
  repeat refine Wp.p rfl ?_
  refine Wp.g rfl (show vp_in 1 4 by unfold vp_in; decide) ?_
  repeat refine Wp.p rfl ?_
  refine Wp.g rfl (show vp_in 2 4 by unfold vp_in; decide) ?_
  repeat refine Wp.p rfl ?_
  refine Wp.g rfl (show vp_in 3 4 by unfold vp_in; decide) ?_
  iterate 8 refine Wp.p rfl ?_
  have hF1' := hF0.tr (hF1.up (fs' := [240, 250, 251, 252, 253, 254, 255, 256, 264]) (as' := dAS) (by decide) (by decide))
  have hF2 : Fr [240, 250, 251, 252, 253, 254, 255, 256, 264] dAS S (sA (sA (sA (sA S1 362 0 x) 362 1 y) 362 2 0) 362 3 0) := (((hF1'.a (by decide)).a (by decide)).a (by decide)).a (by decide)
  generalize hS2 : (sA (sA (sA (sA S1 362 0 x) 362 1 y) 362 2 0) 362 3 0 : mS) = S2 at hF2
  have g1 : S2.1 = S1.1 := by rw [← hS2]
  have gl : S2.2.1 = S1.2.1 := by rw [← hS2]
  have g2 : S2.2.2 362 = upd (upd (fillC (S.2.2 362) 0 0 4) 0 x) 1 y := by
    rw [← hS2, ← num4]
    show upd (upd (upd (upd (S1.2.2 362) 0 x) 1 y) 2 0) 3 0 = _
    rw [hF1.2.2 362 (by decide)]
  have g3 : ∀ a, a ≠ 362 → S2.2.2 a = S1.2.2 a := fun a ha => by
    rw [← hS2]
    show va_up (va_up (va_up (va_up S1.2.2 362 _) 362 _) 362 _) 362 _ a = _
    rw [show ∀ (g : Nat → Nat → Int32) (z : Nat → Int32), va_up g 362 z a = g a from fun g z => if_neg ha, show ∀ (g : Nat → Nat → Int32) (z : Nat → Int32), va_up g 362 z a = g a from fun g z => if_neg ha, show ∀ (g : Nat → Nat → Int32) (z : Nat → Int32), va_up g 362 z a = g a from fun g z => if_neg ha, show ∀ (g : Nat → Nat → Int32) (z : Nat → Int32), va_up g 362 z a = g a from fun g z => if_neg ha]
  have gg : ∀ a, a ∉ dAS → S2.2.2 a = S.2.2 a := fun a ha => hF2.2.2 a ha
  have p0 := gg 342 (by decide)
  have p1 := gg 343 (by decide)
  have p2 := gg 344 (by decide)
  have p3 := gg 345 (by decide)
  have p4 := gg 346 (by decide)
  have hP2 : dP S2 n := ⟨(hF2.1 241 (by decide)).trans hP.1, by rw [p0, p1, p2, p3, p4]; exact hP.2⟩
  have hv : dV S2 = m0F (dV S) x y := by
    unfold dV m0F
    rw [g2, g1, g3 361 (by decide), g3 357 (by decide), g3 359 (by decide), g3 358 (by decide), g3 360 (by decide), g3 365 (by decide), h361, hF1.2.2 357 (by decide), hF1.2.2 359 (by decide), hF1.2.2 358 (by decide), hF1.2.2 360 (by decide), hF1.2.2 365 (by decide), hF1.1 256 (by decide)]
    rfl
  have f0 : ∀ q, S2.1 q = (sF (sF (sF (sF (sF (sF (sF S 240 0) 251 1) 252 0) 253 0) 254 0) 255 (-3)) 256 0).1 q := fun q => by rw [g1]; exact hF1.1 q List.not_mem_nil
  have hI : dI S2 S2 0 (m0F (dV S) x y) (S.2.2 347) (S.2.2 348) := ⟨Fr.rf, hv, f0 252, f0 253, f0 254, f0 255, (g3 347 (by decide)).trans (hF1.2.2 347 (by decide)), (g3 348 (by decide)).trans (hF1.2.2 348 (by decide))⟩
  have key := s_m_loop (d := d) (Q := Q) S2 hP2 200 0 0 0 0 (m0F (dV S) x y) (S.2.2 347) (S.2.2 348) S2 (by omega) (by omega) (by omega) (WF_0 _ _ _) hI (fun S3 hE => ?_)
  · rw [← hS2] at key
    exact key.sub (lS.mk rfl rfl (by repeat (first | exact lSub.nil | refine lSub.cons rfl ?_)))
  · rw [p0, p1, p2, p3, p4] at hE ⊢
    obtain ⟨hF3, e1, e2, e3, e4, e5, e6, e7⟩ := hE
    repeat refine Wp.p rfl ?_
    refine Wp.r rfl trivial (h (sF (S3.1, S3.2.1 + (S3.1 252).toInt64, S3.2.2) 250 (S3.1 250 + 1)) ⟨?_, ?_, ?_, ?_, ?_, e1, e2, e3, e4, e5, e6, e7⟩)
    · exact ((((hF2.up (by decide) (by decide)).m.tr ((hF3.up (by decide) (by decide)).m)) : Fm (240 :: 250 :: 251 :: dFS) dAS S S3).l).f (by decide)
    · exact (hF3.1 240 (by decide)).trans (f0 240)
    · exact (hF3.1 251 (by decide)).trans (f0 251)
    · show S3.1 250 + 1 = _
      rw [hF3.1 250 (by decide), f0 250]
      rfl
    · show S3.2.1 + (S3.1 252).toInt64 = _
      rw [e1, hF3.2.1, gl, hF1.2.1]
      rfl
