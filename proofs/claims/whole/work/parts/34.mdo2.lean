theorem st8a : ∀ x, x < 10 → hB 384 (nI x) → x = 7 ∨ x = 8 := by decide
theorem st8b : ∀ y, y < 10 → hB 31 (nI y) → hB (m_sv 501 7) (nI y) := by decide
theorem st8c : ∀ y, y < 10 → hB 31 (nI y) → (hB (m_sv 501 8) (nI y) ↔ ¬ (nI y = 1 ∨ nI y = 2)) := by decide
theorem st8 (x : Nat) (hx : x < 10) (y : Nat) (hy : y < 10) (h1 : hB 384 (nI x)) (h2 : hB 31 (nI y)) : hB (m_sv 501 x) (nI y) ↔ ¬ (nI x = 8 ∧ (nI y = 1 ∨ nI y = 2)) := by
  rcases st8a x hx h1 with rfl | rfl
  · exact ⟨fun _ z => absurd z.1 (by decide), fun _ => st8b y hy h2⟩
  · exact (st8c y hy h2).trans ⟨fun z w => z w.2, fun z w => z ⟨rfl, w⟩⟩
theorem or1_8 : ∀ j, j < 10 → (hB 385 (nI j) ↔ nI j = 0 ∨ hB 384 (nI j)) ∧ (hB 31 (nI j) ↔ nI j = 0 ∨ hB 30 (nI j)) ∧ (hB 992 (nI j) ↔ 5 ≤ nI j) := by decide
section MO
variable {d k0 i : Nat} {S : mS} {Q : mQ} {a b c : Int32}
theorem s_m_store (hW : WFk k0 (dV S)) (hw : wS 10 a b c) (h : DQ S 10 a b c Q) : Ev (d + 2) n_X6_store [.ref 6, .int a, .int b, .int c] S Q := by
  have ha := hw.2.1.1 rfl
  have hb := hw.2.2.1.1 rfl
  have hc := hw.2.2.2.2.1 rfl
  obtain ⟨ja, hja, eja⟩ := kd_10 hW (wf_ref hW ha)
  obtain ⟨jb, hjb, ejb⟩ := kd_10 hW (wf_ref hW hb)
  have eja' : kd (dV S) (S.2.2 361 (tn a)) = nI ja := eja
  have ejb' : kd (dV S) (S.2.2 361 (tn b)) = nI jb := ejb
  have oa := (or1_8 ja hja).1
  have ob := (or1_8 jb hjb).2.1
  repeat refine Wp.p rfl ?_
  refine Wp.i rfl (s_m_isWrong (ty := 8) hW ha (by decide) ?_)
  rw [show m_sv 500 8 = 384 by decide, eja']
  by_cases qa : ¬ nI ja = 0 ∧ ¬ hB 384 (nI ja)
  · rw [bI_t qa]
    refine Wp.b rfl (fun _ => ?_) (fun (e : ¬ ¬ (1 : Int32) = 0) => absurd (by decide) e)
    repeat refine Wp.p rfl ?_
    exact Wp.r rfl trivial (h.no (d10_2 (Or.inl (by rw [eja]; exact fun z => (oa.mp z).elim qa.1 qa.2))) rfl (by decide))
  rw [bI_f qa]
  have ka : hB 385 (nI ja) := oa.mpr (by
    by_cases z : nI ja = 0
    · exact Or.inl z
    · exact Or.inr (Decidable.not_not.mp (fun y => qa ⟨z, y⟩)))
  refine Wp.b rfl (fun (e : ¬ (0 : Int32) = 0) => absurd rfl e) (fun _ => ?_)
  repeat refine Wp.p rfl ?_
  refine Wp.i rfl (s_m_isWrong (ty := 1) hW hb (by decide) ?_)
  rw [show m_sv 500 1 = 30 by decide, ejb']
  by_cases qb : ¬ nI jb = 0 ∧ ¬ hB 30 (nI jb)
  · rw [bI_t qb]
    refine Wp.b rfl (fun (e : (1 : Int32) = 0) => absurd e (by decide)) (fun _ => ?_)
    repeat refine Wp.p rfl ?_
    exact Wp.r rfl trivial (h.no (d10_2 (Or.inr (by rw [ejb]; exact fun z => (ob.mp z).elim qb.1 qb.2))) rfl (by decide))
  rw [bI_f qb]
  have kb : hB 31 (nI jb) := ob.mpr (by
    by_cases z : nI jb = 0
    · exact Or.inl z
    · exact Or.inr (Decidable.not_not.mp (fun y => qb ⟨z, y⟩)))
  have ka1 : hB 385 (kd (dV S) (gV (dV S) (tn a))) := by rw [eja]; exact ka
  have kb1 : hB 31 (kd (dV S) (gV (dV S) (tn b))) := by rw [ejb]; exact kb
  refine Wp.b rfl (fun _ => ?_) (fun (e : ¬ (0 : Int32) = 0) => absurd rfl e)
  repeat refine Wp.p rfl ?_
  refine Wp.g rfl (inV ha) ?_
  rcases dv_c hW (wf_ref hW ha) with ⟨er, ek⟩ | ⟨j, t, hj, hk, er, t1, t9, ht, ek⟩
  · have er' : S.2.2 361 (tn a) = -1 := er
    refine Wp.b rfl (fun (c : 0 ≤ S.2.2 361 (tn a)) => absurd (er' ▸ c) m1_lt0) (fun _ => ?_)
    repeat refine Wp.p rfl ?_
    exact Wp.r rfl trivial (h.no (d10_f ka1 kb1 (cFm_1 ek) (by decide)) rfl (by decide))
  have er' : S.2.2 361 (tn a) = nI j := er
  have nz : ¬ kd (dV S) (S.2.2 361 (tn a)) = 0 := fun e => by
    have := (nI_eq (a := t) (b := 0) (by omega) (by decide)).mp (ek.symm.trans e)
    omega
  have k8 : hB 384 (nI ja) := (oa.mp ka).resolve_left (fun z => nz (eja'.trans z))
  have k81 : hB 384 (kd (dV S) (S.2.2 361 (tn a))) := by rw [eja']; exact k8
  refine Wp.b rfl (fun _ => ?_) (fun (c : ¬ 0 ≤ S.2.2 361 (tn a)) => absurd (by rw [er']; exact nI_pos' (by omega)) c)
  repeat refine Wp.p rfl ?_
  refine Wp.g rfl (inV ha) ?_
  repeat refine Wp.p rfl ?_
  refine Wp.g rfl (inN hc) ?_
  obtain ⟨-, ⟨n, hn, en, -⟩, -⟩ := hW.2.2.2 j hj
  have en1 : S.2.2 359 (tn (S.2.2 361 (tn a))) = nI n := by rw [er', tn_nI (by omega)]; exact en
  refine Wp.i rfl (s_m_isCell (o := S.2.2 361 (tn a)) (x := S.2.2 362 (tn c)) (show vp_in (S.2.2 361 (tn a)) 500 by rw [er']; exact vp_in_nI (by omega) (by omega)) en1 hn ?_)
  by_cases hq : 0 ≤ S.2.2 362 (tn c) ∧ S.2.2 362 (tn c) < nI n
  case neg =>
    rw [bI_f hq]
    refine Wp.b rfl (fun (e : ¬ (0 : Int32) = 0) => absurd rfl e) (fun _ => ?_)
    repeat refine Wp.p rfl ?_
    exact Wp.r rfl trivial (h.no (d10_f ka1 kb1 (cFm_3 nz k81 (by rw [show gL (dV S) (tn (gV (dV S) (tn a))) = nI n from en1]; exact hq)) (by decide)) rfl (by decide))
  rw [bI_t hq]
  refine Wp.b rfl (fun _ => ?_) (fun (e : ¬ ¬ (1 : Int32) = 0) => absurd (by decide) e)
  have hl : S.2.2 362 (tn c) < gL (dV S) (tn (S.2.2 361 (tn a))) := by rw [show gL (dV S) (tn (S.2.2 361 (tn a))) = nI n from en1]; exact hq.2
  obtain ⟨ix1, ix2, ix3⟩ := wf_ix hW (wf_ref hW ha) nz hq.1 hl
  have ix4 : 20 * S.2.2 361 (tn a) + S.2.2 362 (tn c) = nI (20 * tn (S.2.2 361 (tn a)) + tn (S.2.2 362 (tn c))) := by rw [Int32.mul_comm]; exact ix1
  have ix2' : 20 * tn (S.2.2 361 (tn a)) + tn (S.2.2 362 (tn c)) < 800 := ix2
  have ix5 : vp_in (20 * S.2.2 361 (tn a) + S.2.2 362 (tn c)) 10000 := by rw [ix4]; exact vp_in_nI (by omega) (by omega)
  have ix6 : tn (20 * S.2.2 361 (tn a) + S.2.2 362 (tn c)) = 20 * tn (S.2.2 361 (tn a)) + tn (S.2.2 362 (tn c)) := by rw [ix4]; exact tn_nI (by omega)
  have c0 : cFm (dV S) (gV (dV S) (tn a)) 384 (gN (dV S) (tn c)) = 0 := cFm_0 nz k81 hq.1 hl
  have s8 := st8 ja hja jb hjb k8 kb
  have s9 : tn (kd (dV S) (gV (dV S) (tn a))) = ja := by rw [eja]; exact tn_nI (by omega)
  have fin : ¬ (nI ja = 8 ∧ (nI jb = 1 ∨ nI jb = 2)) → Wp (d + 2) n_X6_store 83 (lv_args 0 [.ref 6, .int a, .int b, .int c]) [] S Q := fun w => by
    repeat refine Wp.p rfl ?_
    refine Wp.g rfl (inV ha) ?_
    repeat refine Wp.p rfl ?_
    refine Wp.g rfl (inN hc) ?_
    repeat refine Wp.p rfl ?_
    refine Wp.g rfl (inV hb) ?_
    refine Wp.g rfl ix5 ?_
    repeat refine Wp.p rfl ?_
    refine Wp.r rfl trivial (h.go (d10_0 ka1 kb1 c0 (by rw [s9, ejb]; exact s8.mpr w)) (Fr.rf.a (by decide)) ?_ rfl rfl)
    show (_, _, _, _, _, upd (S.2.2 360) (tn (20 * S.2.2 361 (tn a) + S.2.2 362 (tn c))) (S.2.2 361 (tn b)), _, _) = _
    rw [ix6]
    rfl
  repeat refine Wp.p rfl ?_
  refine Wp.i rfl (s_m_kind hW ha ?_)
  rw [eja']
  repeat refine Wp.p rfl ?_
  refine Wp.b rfl (fun (q8 : ¬ nI ja = 8) => ?_) (fun (q8 : ¬ ¬ nI ja = 8) => ?_)
  · exact fin (fun z => q8 z.1)
  have f4 : nI jb = 1 ∨ nI jb = 2 → Q (some (.int 4)) S := fun w => h.no (d10_4 ka1 kb1 c0 (by rw [s9, ejb]; exact fun z => s8.mp z ⟨Decidable.not_not.mp q8, w⟩)) rfl (by decide)
  repeat refine Wp.p rfl ?_
  refine Wp.i rfl (s_m_kind hW hb ?_)
  rw [ejb']
  repeat refine Wp.p rfl ?_
  refine Wp.b rfl (fun (q1 : nI jb = 1) => ?_) (fun (q1 : ¬ nI jb = 1) => ?_)
  · repeat refine Wp.p rfl ?_
    exact Wp.r rfl trivial (f4 (Or.inl q1))
  repeat refine Wp.p rfl ?_
  refine Wp.i rfl (s_m_kind hW hb ?_)
  rw [ejb']
  repeat refine Wp.p rfl ?_
  refine Wp.b rfl (fun (q2 : ¬ nI jb = 2) => ?_) (fun (q2 : ¬ ¬ nI jb = 2) => ?_)
  · exact fin (fun z => z.2.elim q1 q2)
  · repeat refine Wp.p rfl ?_
    exact Wp.r rfl trivial (f4 (Or.inr (Decidable.not_not.mp q2)))
theorem q_13 (hW : WFk k0 (dV S)) (hw : wS 13 a b c) (h : DQ S 13 a b c Q) : Wp (d + 2) n_X6_doOther 6 (lv_args 0 [.ref 6, .int (nI i), .int a, .int b, .int c]) [.int (nI 13)] S Q := by
  have ha := hw.2.1.2.1 rfl
  have hb := hw.2.2.1.1 rfl
  refine Wp.p (pc' := 60) rfl ?_
  obtain ⟨jb, hjb, ejb⟩ := kd_10 hW (wf_ref hW hb)
  have ejb' : kd (dV S) (S.2.2 361 (tn b)) = nI jb := ejb
  have o9 := (or1_8 jb hjb).2.2
  repeat refine Wp.p rfl ?_
  refine Wp.g rfl (inV hb) ?_
  rcases dv_c hW (wf_ref hW hb) with ⟨er, ek⟩ | ⟨j, t, hj, hk, er, t1, t9, ht, ek⟩
  · have er' : S.2.2 361 (tn b) = -1 := er
    refine Wp.b rfl (fun _ => ?_) (fun (q : ¬ S.2.2 361 (tn b) < 0) => absurd (by rw [er']; decide) q)
    repeat refine Wp.p rfl ?_
    refine Wp.g rfl (inV hb) ?_
    refine Wp.b rfl (fun (c : 0 ≤ S.2.2 361 (tn b)) => absurd (er' ▸ c) m1_lt0) (fun _ => ?_)
    repeat refine Wp.p rfl ?_
    exact Wp.r rfl trivial (h.no (ite_no (uFm_1 ek) (by decide)) rfl (by decide))
  · have er' : S.2.2 361 (tn b) = nI j := er
    have hpos : 0 ≤ S.2.2 361 (tn b) := by rw [er']; exact nI_pos' (by omega)
    have nz : ¬ kd (dV S) (S.2.2 361 (tn b)) = 0 := fun e => by
      have := (nI_eq (a := t) (b := 0) (by omega) (by decide)).mp (ek.symm.trans e)
      omega
    refine Wp.b rfl (fun (q : S.2.2 361 (tn b) < 0) => absurd hpos (Int32.not_le.mpr q)) (fun _ => ?_)
    repeat refine Wp.p rfl ?_
    refine Wp.i rfl (s_m_kind hW hb ?_)
    rw [ejb']
    repeat refine Wp.p rfl ?_
    refine Wp.b rfl (fun (q5 : 5 ≤ nI jb) => ?_) (fun (q5 : ¬ 5 ≤ nI jb) => ?_)
    · repeat refine Wp.p rfl ?_
      refine Wp.g rfl (inV hb) ?_
      refine Wp.g rfl (show vp_in (S.2.2 361 (tn b)) 500 by rw [er']; exact vp_in_nI (by omega) (by omega)) ?_
      refine Wp.g rfl (inN ha) ?_
      repeat refine Wp.p rfl ?_
      exact Wp.r rfl trivial (h.go (ite_yes (uFm_0 nz (by rw [ejb]; exact o9.mpr q5))) (Fr.rf.a (by decide)) rfl rfl rfl)
    · repeat refine Wp.p rfl ?_
      refine Wp.g rfl (inV hb) ?_
      refine Wp.b rfl (fun _ => ?_) (fun (c : ¬ 0 ≤ S.2.2 361 (tn b)) => absurd hpos c)
      repeat refine Wp.p rfl ?_
      exact Wp.r rfl trivial (h.no (ite_no (uFm_2 nz (by rw [ejb]; exact fun z => q5 (o9.mp z))) (by decide)) rfl (by decide))
theorem q_14 (hW : WFk k0 (dV S)) (hw : wS 14 a b c) (h : DQ S 14 a b c Q) : Wp (d + 2) n_X6_doOther 6 (lv_args 0 [.ref 6, .int (nI i), .int a, .int b, .int c]) [.int (nI 14)] S Q := by
  have ha := hw.2.1.2.1 rfl
  have hb := hw.2.2.1.1 rfl
  have hc := hw.2.2.2.2.1 rfl
  refine Wp.p (pc' := 112) rfl ?_
  repeat refine Wp.p rfl ?_
  refine Wp.i rfl (s_m_isWrong (ty := 6) hW hb (by decide) ?_)
  have em : m_sv 500 6 = 32 := by decide
  rw [em]
  rcases dv_c hW (wf_ref hW hb) with ⟨er, ek⟩ | ⟨j, t, hj, hk, er, t1, t9, ht, ek⟩
  · have er' : S.2.2 361 (tn b) = -1 := er
    rw [bI_f (fun z => z.1 ek)]
    refine Wp.b rfl (fun (e : ¬ (0 : Int32) = 0) => absurd rfl e) (fun _ => ?_)
    repeat refine Wp.p rfl ?_
    refine Wp.g rfl (inV hb) ?_
    refine Wp.b rfl (fun (c : 0 ≤ S.2.2 361 (tn b)) => absurd (er' ▸ c) m1_lt0) (fun _ => ?_)
    repeat refine Wp.p rfl ?_
    refine Wp.g rfl (inV hb) ?_
    refine Wp.b rfl (fun (c : 0 ≤ S.2.2 361 (tn b)) => absurd (er' ▸ c) m1_lt0) (fun _ => ?_)
    repeat refine Wp.p rfl ?_
    exact Wp.r rfl trivial (h.no (ite_no (cFm_1 ek) (by decide)) rfl (by decide))
  · have er' : S.2.2 361 (tn b) = nI j := er
    have hpos : 0 ≤ S.2.2 361 (tn b) := by rw [er']; exact nI_pos' (by omega)
    have nz : ¬ kd (dV S) (S.2.2 361 (tn b)) = 0 := fun e => by
      have := (nI_eq (a := t) (b := 0) (by omega) (by decide)).mp (ek.symm.trans e)
      omega
    by_cases hbb : hB 32 (kd (dV S) (S.2.2 361 (tn b)))
    · rw [bI_f (fun z => z.2 hbb)]
      refine Wp.b rfl (fun (e : ¬ (0 : Int32) = 0) => absurd rfl e) (fun _ => ?_)
      repeat refine Wp.p rfl ?_
      refine Wp.g rfl (inV hb) ?_
      refine Wp.b rfl (fun _ => ?_) (fun (c : ¬ 0 ≤ S.2.2 361 (tn b)) => absurd hpos c)
      repeat refine Wp.p rfl ?_
      refine Wp.g rfl (inV hb) ?_
      repeat refine Wp.p rfl ?_
      refine Wp.g rfl (inN hc) ?_
      obtain ⟨-, ⟨n, hn, en, -⟩, -⟩ := hW.2.2.2 j hj
      have en1 : S.2.2 359 (tn (S.2.2 361 (tn b))) = nI n := by rw [er', tn_nI (by omega)]; exact en
      refine Wp.i rfl (s_m_isCell (o := S.2.2 361 (tn b)) (x := S.2.2 362 (tn c)) (show vp_in (S.2.2 361 (tn b)) 500 by rw [er']; exact vp_in_nI (by omega) (by omega)) en1 hn ?_)
      by_cases hcc : 0 ≤ S.2.2 362 (tn c) ∧ S.2.2 362 (tn c) < nI n
      case neg =>
        rw [bI_f hcc]
        refine Wp.b rfl (fun (e : ¬ (0 : Int32) = 0) => absurd rfl e) (fun _ => ?_)
        repeat refine Wp.p rfl ?_
        exact Wp.r rfl trivial (h.no (ite_no (cFm_3 nz hbb (by rw [show gL (dV S) (tn (gV (dV S) (tn b))) = nI n from en1]; exact hcc)) (by decide)) rfl (by decide))
      rw [bI_t hcc]
      refine Wp.b rfl (fun _ => ?_) (fun (e : ¬ ¬ (1 : Int32) = 0) => absurd (by decide) e)
      have hl : S.2.2 362 (tn c) < gL (dV S) (tn (S.2.2 361 (tn b))) := by rw [show gL (dV S) (tn (S.2.2 361 (tn b))) = nI n from en1]; exact hcc.2
      obtain ⟨ix1, ix2, ix3⟩ := wf_ix hW (wf_ref hW hb) nz hcc.1 hl
      have ix4 : 20 * S.2.2 361 (tn b) + S.2.2 362 (tn c) = nI (20 * tn (S.2.2 361 (tn b)) + tn (S.2.2 362 (tn c))) := by rw [Int32.mul_comm]; exact ix1
      have ix2' : 20 * tn (S.2.2 361 (tn b)) + tn (S.2.2 362 (tn c)) < 800 := ix2
      have ix5 : vp_in (20 * S.2.2 361 (tn b) + S.2.2 362 (tn c)) 10000 := by rw [ix4]; exact vp_in_nI (by omega) (by omega)
      have ix6 : tn (20 * S.2.2 361 (tn b) + S.2.2 362 (tn c)) = 20 * tn (S.2.2 361 (tn b)) + tn (S.2.2 362 (tn c)) := by rw [ix4]; exact tn_nI (by omega)
      repeat refine Wp.p rfl ?_
      refine Wp.g rfl (inV hb) ?_
      repeat refine Wp.p rfl ?_
      refine Wp.g rfl (inN hc) ?_
      repeat refine Wp.p rfl ?_
      refine Wp.g rfl ix5 ?_
      refine Wp.g rfl (inN ha) ?_
      repeat refine Wp.p rfl ?_
      refine Wp.r rfl trivial (h.go (ite_yes (cFm_0 nz hbb hcc.1 hl)) (Fr.rf.a (by decide)) ?_ rfl rfl)
      show (_, upd (S.2.2 362) (tn a) (S.2.2 360 (tn (20 * S.2.2 361 (tn b) + S.2.2 362 (tn c)))), _) = _
      rw [ix6]
      rfl
    · rw [bI_t ⟨nz, hbb⟩]
      refine Wp.b rfl (fun _ => ?_) (fun (e : ¬ ¬ (1 : Int32) = 0) => absurd (by decide) e)
      repeat refine Wp.p rfl ?_
      refine Wp.g rfl (inV hb) ?_
      refine Wp.b rfl (fun _ => ?_) (fun (c : ¬ 0 ≤ S.2.2 361 (tn b)) => absurd hpos c)
      repeat refine Wp.p rfl ?_
      exact Wp.r rfl trivial (h.no (ite_no (cFm_2 nz hbb) (by decide)) rfl (by decide))
theorem q_15 (hW : WFk k0 (dV S)) (hw : wS 15 a b c) (h : DQ S 15 a b c Q) : Wp (d + 2) n_X6_doOther 6 (lv_args 0 [.ref 6, .int (nI i), .int a, .int b, .int c]) [.int (nI 15)] S Q := by
  have ha := hw.2.1.1 rfl
  have hb := hw.2.2.1.2.1 rfl
  have hc := hw.2.2.2.2.1 rfl
  refine Wp.p (pc' := 198) rfl ?_
  repeat refine Wp.p rfl ?_
  refine Wp.i rfl (s_m_isWrong (ty := 6) hW ha (by decide) ?_)
  have em : m_sv 500 6 = 32 := by decide
  rw [em]
  rcases dv_c hW (wf_ref hW ha) with ⟨er, ek⟩ | ⟨j, t, hj, hk, er, t1, t9, ht, ek⟩
  · have er' : S.2.2 361 (tn a) = -1 := er
    rw [bI_f (fun z => z.1 ek)]
    refine Wp.b rfl (fun (e : ¬ (0 : Int32) = 0) => absurd rfl e) (fun _ => ?_)
    repeat refine Wp.p rfl ?_
    refine Wp.g rfl (inV ha) ?_
    refine Wp.b rfl (fun (c : 0 ≤ S.2.2 361 (tn a)) => absurd (er' ▸ c) m1_lt0) (fun _ => ?_)
    repeat refine Wp.p rfl ?_
    refine Wp.g rfl (inV ha) ?_
    refine Wp.b rfl (fun (c : 0 ≤ S.2.2 361 (tn a)) => absurd (er' ▸ c) m1_lt0) (fun _ => ?_)
    repeat refine Wp.p rfl ?_
    exact Wp.r rfl trivial (h.no (ite_no (cFm_1 ek) (by decide)) rfl (by decide))
  · have er' : S.2.2 361 (tn a) = nI j := er
    have hpos : 0 ≤ S.2.2 361 (tn a) := by rw [er']; exact nI_pos' (by omega)
    have nz : ¬ kd (dV S) (S.2.2 361 (tn a)) = 0 := fun e => by
      have := (nI_eq (a := t) (b := 0) (by omega) (by decide)).mp (ek.symm.trans e)
      omega
    by_cases hbb : hB 32 (kd (dV S) (S.2.2 361 (tn a)))
    · rw [bI_f (fun z => z.2 hbb)]
      refine Wp.b rfl (fun (e : ¬ (0 : Int32) = 0) => absurd rfl e) (fun _ => ?_)
      repeat refine Wp.p rfl ?_
      refine Wp.g rfl (inV ha) ?_
      refine Wp.b rfl (fun _ => ?_) (fun (c : ¬ 0 ≤ S.2.2 361 (tn a)) => absurd hpos c)
      repeat refine Wp.p rfl ?_
      refine Wp.g rfl (inV ha) ?_
      repeat refine Wp.p rfl ?_
      refine Wp.g rfl (inN hb) ?_
      obtain ⟨-, ⟨n, hn, en, -⟩, -⟩ := hW.2.2.2 j hj
      have en1 : S.2.2 359 (tn (S.2.2 361 (tn a))) = nI n := by rw [er', tn_nI (by omega)]; exact en
      refine Wp.i rfl (s_m_isCell (o := S.2.2 361 (tn a)) (x := S.2.2 362 (tn b)) (show vp_in (S.2.2 361 (tn a)) 500 by rw [er']; exact vp_in_nI (by omega) (by omega)) en1 hn ?_)
      by_cases hcc : 0 ≤ S.2.2 362 (tn b) ∧ S.2.2 362 (tn b) < nI n
      case neg =>
        rw [bI_f hcc]
        refine Wp.b rfl (fun (e : ¬ (0 : Int32) = 0) => absurd rfl e) (fun _ => ?_)
        repeat refine Wp.p rfl ?_
        exact Wp.r rfl trivial (h.no (ite_no (cFm_3 nz hbb (by rw [show gL (dV S) (tn (gV (dV S) (tn a))) = nI n from en1]; exact hcc)) (by decide)) rfl (by decide))
      rw [bI_t hcc]
      refine Wp.b rfl (fun _ => ?_) (fun (e : ¬ ¬ (1 : Int32) = 0) => absurd (by decide) e)
      have hl : S.2.2 362 (tn b) < gL (dV S) (tn (S.2.2 361 (tn a))) := by rw [show gL (dV S) (tn (S.2.2 361 (tn a))) = nI n from en1]; exact hcc.2
      obtain ⟨ix1, ix2, ix3⟩ := wf_ix hW (wf_ref hW ha) nz hcc.1 hl
      have ix4 : 20 * S.2.2 361 (tn a) + S.2.2 362 (tn b) = nI (20 * tn (S.2.2 361 (tn a)) + tn (S.2.2 362 (tn b))) := by rw [Int32.mul_comm]; exact ix1
      have ix2' : 20 * tn (S.2.2 361 (tn a)) + tn (S.2.2 362 (tn b)) < 800 := ix2
      have ix5 : vp_in (20 * S.2.2 361 (tn a) + S.2.2 362 (tn b)) 10000 := by rw [ix4]; exact vp_in_nI (by omega) (by omega)
      have ix6 : tn (20 * S.2.2 361 (tn a) + S.2.2 362 (tn b)) = 20 * tn (S.2.2 361 (tn a)) + tn (S.2.2 362 (tn b)) := by rw [ix4]; exact tn_nI (by omega)
      repeat refine Wp.p rfl ?_
      refine Wp.g rfl (inV ha) ?_
      repeat refine Wp.p rfl ?_
      refine Wp.g rfl (inN hb) ?_
      repeat refine Wp.p rfl ?_
      refine Wp.g rfl (inN hc) ?_
      refine Wp.g rfl ix5 ?_
      repeat refine Wp.p rfl ?_
      refine Wp.r rfl trivial (h.go (ite_yes (cFm_0 nz hbb hcc.1 hl)) (Fr.rf.a (by decide)) ?_ rfl rfl)
      show (_, _, _, _, _, upd (S.2.2 360) (tn (20 * S.2.2 361 (tn a) + S.2.2 362 (tn b))) (S.2.2 362 (tn c)), _, _) = _
      rw [ix6]
      rfl
    · rw [bI_t ⟨nz, hbb⟩]
      refine Wp.b rfl (fun _ => ?_) (fun (e : ¬ ¬ (1 : Int32) = 0) => absurd (by decide) e)
      repeat refine Wp.p rfl ?_
      refine Wp.g rfl (inV ha) ?_
      refine Wp.b rfl (fun _ => ?_) (fun (c : ¬ 0 ≤ S.2.2 361 (tn a)) => absurd hpos c)
      repeat refine Wp.p rfl ?_
      exact Wp.r rfl trivial (h.no (ite_no (cFm_2 nz hbb) (by decide)) rfl (by decide))
theorem q_16 (hw : wS 16 a b c) (h : DQ S 16 a b c Q) : Wp (d + 2) n_X6_doOther 6 (lv_args 0 [.ref 6, .int (nI i), .int a, .int b, .int c]) [.int (nI 16)] S Q := by
  have ha := hw.2.1.2.1 rfl
  refine Wp.p (pc' := 283) rfl ?_
  repeat refine Wp.p rfl ?_
  refine Wp.g rfl (inN ha) ?_
  repeat refine Wp.p rfl ?_
  exact Wp.r rfl trivial (h _ (Fr.rf.a (by decide)) rfl rfl rfl)
theorem q_17 (hw : wS 17 a b c) (h : DQ S 17 a b c Q) : Wp (d + 2) n_X6_doOther 6 (lv_args 0 [.ref 6, .int (nI i), .int a, .int b, .int c]) [.int (nI 17)] S Q := by
  have ha := hw.2.1.2.1 rfl
  have hb := hw.2.2.1.2.1 rfl
  refine Wp.p (pc' := 292) rfl ?_
  repeat refine Wp.p rfl ?_
  refine Wp.g rfl (inN ha) ?_
  repeat refine Wp.p rfl ?_
  refine Wp.g rfl (inN hb) ?_
  repeat refine Wp.p rfl ?_
  refine Wp.g rfl (inN ha) ?_
  repeat refine Wp.p rfl ?_
  exact Wp.r rfl trivial (h _ (Fr.rf.a (by decide)) rfl rfl rfl)
theorem q_18 (hw : wS 18 a b c) (h : DQ S 18 a b c Q) : Wp (d + 2) n_X6_doOther 6 (lv_args 0 [.ref 6, .int (nI i), .int a, .int b, .int c]) [.int (nI 18)] S Q := by
  have ha := hw.2.1.2.1 rfl
  have hb := hw.2.2.1.2.1 rfl
  refine Wp.p (pc' := 309) rfl ?_
  repeat refine Wp.p rfl ?_
  refine Wp.g rfl (inN hb) ?_
  refine Wp.b rfl (fun (q : ¬ S.2.2 362 (tn b) = 0) => ?_) (fun (q : ¬ ¬ S.2.2 362 (tn b) = 0) => ?_)
  · repeat refine Wp.p rfl ?_
    refine Wp.g rfl (inN ha) ?_
    repeat refine Wp.p rfl ?_
    refine Wp.g rfl (inN hb) ?_
    refine Wp.g rfl q ?_
    refine Wp.g rfl (inN ha) ?_
    repeat refine Wp.p rfl ?_
    exact Wp.r rfl trivial (h.go (if_neg q) (Fr.rf.a (by decide)) rfl rfl rfl)
  · repeat refine Wp.p rfl ?_
    exact Wp.r rfl trivial (h.no (if_pos (Decidable.not_not.mp q)) rfl (by decide))
theorem q_19 (hw : wS 19 a b c) (h : DQ S 19 a b c Q) : Wp (d + 2) n_X6_doOther 6 (lv_args 0 [.ref 6, .int (nI i), .int a, .int b, .int c]) [.int (nI 19)] S Q := by
  have ha := hw.2.1.2.1 rfl
  have hb := hw.2.2.1.2.1 rfl
  refine Wp.p (pc' := 338) rfl ?_
  repeat refine Wp.p rfl ?_
  refine Wp.g rfl (inN ha) ?_
  repeat refine Wp.p rfl ?_
  refine Wp.g rfl (inN hb) ?_
  refine Wp.b rfl (fun (q : S.2.2 362 (tn b) ≤ S.2.2 362 (tn a)) => ?_) (fun (q : ¬ S.2.2 362 (tn b) ≤ S.2.2 362 (tn a)) => ?_)
  · repeat refine Wp.p rfl ?_
    exact Wp.r rfl trivial (h _ (Fr.rf.f (by decide)) rfl (show S.1 264 = nxS (dV S) 19 a b c (S.1 264) from (if_neg (Int32.not_lt.mpr q)).symm) rfl)
  · repeat refine Wp.p rfl ?_
    exact Wp.r rfl trivial (h _ (Fr.rf.f (by decide)) rfl (show c = nxS (dV S) 19 a b c (S.1 264) from (if_pos (Int32.not_le.mp q)).symm) rfl)
theorem q_20 (hw : wS 20 a b c) (h : DQ S 20 a b c Q) : Wp (d + 2) n_X6_doOther 6 (lv_args 0 [.ref 6, .int (nI i), .int a, .int b, .int c]) [.int (nI 20)] S Q := by
  refine Wp.p (pc' := 368) rfl ?_
  repeat refine Wp.p rfl ?_
  exact Wp.r rfl trivial (h _ (Fr.rf.f (by decide)) rfl rfl rfl)
theorem q_21 (hw : wS 21 a b c) (h : DQ S 21 a b c Q) : Wp (d + 2) n_X6_doOther 6 (lv_args 0 [.ref 6, .int (nI i), .int a, .int b, .int c]) [.int (nI 21)] S Q := by
  refine Wp.p (pc' := 375) rfl ?_
  repeat refine Wp.p rfl ?_
  exact Wp.r rfl trivial (h.no rfl rfl (by decide))
theorem q_23 (hw : wS 23 a b c) (h : DQ S 23 a b c Q) : Wp (d + 2) n_X6_doOther 6 (lv_args 0 [.ref 6, .int (nI i), .int a, .int b, .int c]) [.int (nI 23)] S Q := by
  have ha := hw.2.1.2.1 rfl
  refine Wp.p (pc' := 387) rfl ?_
  repeat refine Wp.p rfl ?_
  refine Wp.g rfl (inN ha) ?_
  repeat refine Wp.p rfl ?_
  exact Wp.r rfl trivial (h _ ((Fr.rf.f (by decide)).f (by decide)) rfl rfl rfl)
end MO
