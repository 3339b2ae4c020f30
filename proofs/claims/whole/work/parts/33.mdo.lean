/-- what a step of the model must give -/
def DQ (S : mS) (k : Nat) (a b c : Int32) (Q : mQ) : Prop := ∀ S', Fr [256, 264, 253] [361, 362, 357, 358, 359, 360, 365] S S' → dV S' = (doS (dV S) k a b c).2 → S'.1 264 = (if k = 23 then 32 else nxS (dV S) k a b c (S.1 264)) → S'.1 253 = (if k = 23 then gN (dV S) (tn a) else S.1 253) → Q (some (.int (doS (dV S) k a b c).1)) S'
theorem DQ.no {S : mS} {k : Nat} {a b c x : Int32} {Q : mQ} (h : DQ S k a b c Q) (e : doS (dV S) k a b c = (x, dV S)) (hn : nxS (dV S) k a b c (S.1 264) = S.1 264) (hk : k ≠ 23) : Q (some (.int x)) S := by
  have := h S Fr.rf (by rw [e]) (by rw [if_neg hk, hn]) (by rw [if_neg hk])
  rw [e] at this
  exact this
theorem DQ.go {S S' : mS} {k : Nat} {a b c x : Int32} {m : mM} {Q : mQ} (h : DQ S k a b c Q) (e : doS (dV S) k a b c = (x, m)) (hF : Fr [256, 264, 253] [361, 362, 357, 358, 359, 360, 365] S S') (hm : dV S' = m) (hn : S'.1 264 = (if k = 23 then 32 else nxS (dV S) k a b c (S.1 264))) (he : S'.1 253 = (if k = 23 then gN (dV S) (tn a) else S.1 253)) : Q (some (.int x)) S' := by
  have := h S' hF (by rw [e]; exact hm) hn he
  rw [e] at this
  exact this
theorem or1_k : ∀ ty, ty < 11 → ∀ j, j < 10 → (hB (m_sv 500 ty ||| 1) (nI j) ↔ nI j = 0 ∨ hB (m_sv 500 ty) (nI j)) := by decide
section MF
variable {d k0 i : Nat} {S : mS} {Q : mQ} {a b c : Int32}
theorem q_0 (hw : wS 0 a b c) (h : DQ S 0 a b c Q) : Wp (d + 3) n_X6_doStep 35 [(4, .int c), (3, .int b), (2, .int a), (0, .ref 6), (1, .int (nI i))] [.int (nI 0)] S Q := by
  have ha := hw.2.1.1 rfl
  refine Wp.p (pc' := 100) rfl ?_
  repeat refine Wp.p rfl ?_
  refine Wp.g rfl (inV ha) ?_
  repeat refine Wp.p rfl ?_
  exact Wp.r rfl trivial (h _ (Fr.rf.a (by decide)) rfl rfl rfl)
theorem q_1 (hW : WFk k0 (dV S)) (hw : wS 1 a b c) (h : DQ S 1 a b c Q) : Wp (d + 3) n_X6_doStep 35 [(4, .int c), (3, .int b), (2, .int a), (0, .ref 6), (1, .int (nI i))] [.int (nI 1)] S Q := by
  have ha := hw.2.1.1 rfl
  have hb := hw.2.2.1.2.2.1 rfl
  refine Wp.p (pc' := 109) rfl ?_
  have h256 : S.1 256 = nI k0 := hW.2.1
  have hk := hW.1
  repeat refine Wp.p rfl ?_
  refine Wp.b rfl (fun (c1 : ¬ S.1 256 = 40) => ?_) (fun (c1 : ¬ ¬ S.1 256 = 40) => ?_)
  · have hlt : k0 < 40 := by
      rcases Nat.lt_or_ge k0 40 with z | z
      · exact z
      · exact absurd (by rw [h256, show k0 = 40 by omega]; rfl) c1
    repeat refine Wp.p rfl ?_
    refine Wp.i rfl (s_m_newObject hlt h256 ?_)
    refine Wp.g rfl (inV ha) ?_
    repeat refine Wp.p rfl ?_
    refine Wp.r rfl trivial (h.go (m := newO (dV S) (tn a) b 0) (if_neg c1) ?_ ?_ rfl rfl)
    · exact (((((Fr.rf (S := S)).a (by decide)).a (by decide)).a (by decide)).f (by decide)).a (by decide)
    · have e1 : gM (dV S) = nI k0 := h256
      unfold newO
      rw [e1, tn_nI (by omega), nI_1]
      rfl
  · repeat refine Wp.p rfl ?_
    exact Wp.r rfl trivial (h.no (if_pos (Decidable.not_not.mp c1)) rfl (by decide))
theorem q_2 (hW : WFk k0 (dV S)) (hw : wS 2 a b c) (h : DQ S 2 a b c Q) : Wp (d + 3) n_X6_doStep 35 [(4, .int c), (3, .int b), (2, .int a), (0, .ref 6), (1, .int (nI i))] [.int (nI 2)] S Q := by
  have ha := hw.2.1.1 rfl
  have hb := hw.2.2.1.2.2.2.1 rfl
  have hc := hw.2.2.2.2.1 rfl
  refine Wp.p (pc' := 134) rfl ?_
  have h256 : S.1 256 = nI k0 := hW.2.1
  have hk := hW.1
  repeat refine Wp.p rfl ?_
  refine Wp.g rfl (inN hc) ?_
  refine Wp.b rfl (fun (c0 : 0 ≤ S.2.2 362 (tn c)) => ?_) (fun (c0 : ¬ 0 ≤ S.2.2 362 (tn c)) => ?_)
  case refine_2 =>
    repeat refine Wp.p rfl ?_
    exact Wp.r rfl trivial (h.no (if_pos (Int32.not_le.mp c0)) rfl (by decide))
  have n0 : ¬ gN (dV S) (tn c) < 0 := Int32.not_lt.mpr c0
  repeat refine Wp.p rfl ?_
  refine Wp.g rfl (inN hc) ?_
  repeat refine Wp.p rfl ?_
  refine Wp.b rfl (fun (c2 : 20 < S.2.2 362 (tn c)) => ?_) (fun (c2 : ¬ 20 < S.2.2 362 (tn c)) => ?_)
  · repeat refine Wp.p rfl ?_
    exact Wp.r rfl trivial (h.no ((if_neg n0).trans (if_pos (Or.inl c2))) rfl (by decide))
  repeat refine Wp.p rfl ?_
  refine Wp.b rfl (fun (c1 : ¬ S.1 256 = 40) => ?_) (fun (c1 : ¬ ¬ S.1 256 = 40) => ?_)
  case refine_2 =>
    repeat refine Wp.p rfl ?_
    exact Wp.r rfl trivial (h.no ((if_neg n0).trans (if_pos (Or.inr (Decidable.not_not.mp c1)))) rfl (by decide))
  have hlt : k0 < 40 := by
    rcases Nat.lt_or_ge k0 40 with z | z
    · exact z
    · exact absurd (by rw [h256, show k0 = 40 by omega]; rfl) c1
  obtain ⟨n, -, hn, en⟩ := of_rng (lo := 0) (hi := 20) rfl rfl (by decide) (by decide) c0 (Int32.not_lt.mp c2)
  have ed : doS (dV S) 2 a b c = (0, newO (dV S) (tn a) b (nI n)) := by
    have : doS (dV S) 2 a b c = (0, newO (dV S) (tn a) b (S.2.2 362 (tn c))) := (if_neg n0).trans (if_neg (fun z => z.elim c2 c1))
    rw [en] at this
    exact this
  repeat refine Wp.p rfl ?_
  refine Wp.g rfl (inN hc) ?_
  show Wp (d + 3) n_X6_doStep 184 _ [.int (S.2.2 362 (tn c)), .int b, .ref 6, .int a, .ref 361] S Q
  rw [en]
  refine Wp.i rfl (s_m_newArray hb hlt hn h256 (fun S' hF e0 e1 e2 e3 e4 => ?_))
  refine Wp.g rfl (inV ha) ?_
  repeat refine Wp.p rfl ?_
  refine Wp.r rfl trivial (h.go ed ?_ ?_ (hF.1 264 (by decide)) (hF.1 253 (by decide)))
  · exact (hF.up (by decide) (by decide)).a (by decide)
  · have e5 : gM (dV S) = nI k0 := h256
    unfold newO
    rw [e5, tn_nI (by omega), tn_nI (by omega), nI_1]
    show (upd (S'.2.2 361) (tn a) (nI k0), S'.2.2 362, S'.2.2 357, S'.2.2 359, S'.2.2 358, S'.2.2 360, S'.2.2 365, S'.1 256) = _
    rw [e0, e1, e2, e3, e4, hF.2.2 361 (by decide), hF.2.2 362 (by decide), hF.2.2 365 (by decide)]
    rfl
theorem q_3 (hw : wS 3 a b c) (h : DQ S 3 a b c Q) : Wp (d + 3) n_X6_doStep 35 [(4, .int c), (3, .int b), (2, .int a), (0, .ref 6), (1, .int (nI i))] [.int (nI 3)] S Q := by
  have ha := hw.2.1.1 rfl
  have hb := hw.2.2.1.1 rfl
  refine Wp.p (pc' := 190) rfl ?_
  repeat refine Wp.p rfl ?_
  refine Wp.g rfl (inV hb) ?_
  refine Wp.g rfl (inV ha) ?_
  repeat refine Wp.p rfl ?_
  exact Wp.r rfl trivial (h _ (Fr.rf.a (by decide)) rfl rfl rfl)
theorem q_4 (hW : WFk k0 (dV S)) (hw : wS 4 a b c) (h : DQ S 4 a b c Q) : Wp (d + 3) n_X6_doStep 35 [(4, .int c), (3, .int b), (2, .int a), (0, .ref 6), (1, .int (nI i))] [.int (nI 4)] S Q := by
  have ha := hw.2.1.1 rfl
  have hb := hw.2.2.1.2.2.2.2.1 rfl
  refine Wp.p (pc' := 204) rfl ?_
  obtain ⟨ty, -, hty, rfl⟩ := of_rng (lo := 0) (hi := 10) rfl rfl (by decide) (by decide) hb.1 (show b ≤ 10 from Int32.le_iff_toInt_le.mpr (by have := Int32.lt_iff_toInt_lt.mp hb.2; rw [show (11 : Int32).toInt = 11 from rfl] at this; rw [show (10 : Int32).toInt = 10 from rfl]; omega))
  have tb : tn (nI ty) = ty := tn_nI (by omega)
  repeat refine Wp.p rfl ?_
  refine Wp.g rfl (inV ha) ?_
  rcases dv_c hW (wf_ref hW ha) with ⟨er, ek⟩ | ⟨j, t, hj, hk, er, t1, t9, ht, ek⟩
  · have er' : S.2.2 361 (tn a) = -1 := er
    refine Wp.b rfl (fun _ => ?_) (fun (q : ¬ S.2.2 361 (tn a) < 0) => absurd (by rw [er']; decide) q)
    repeat refine Wp.p rfl ?_
    have nb : ¬ hB (m_sv 500 (tn (nI ty))) (kd (dV S) (gV (dV S) (tn a))) := by
      rw [ek, tb]
      exact (by decide : ∀ ty, ty < 11 → ¬ hB (m_sv 500 ty) 0) ty (by omega)
    exact Wp.r rfl trivial (h _ (Fr.rf.f (by decide)) rfl (show S.1 264 = nxS (dV S) 4 a (nI ty) c (S.1 264) from (if_neg nb).symm) rfl)
  · have er' : S.2.2 361 (tn a) = nI j := er
    refine Wp.b rfl (fun (q : S.2.2 361 (tn a) < 0) => absurd (er' ▸ q) (nI_n0 (by omega))) (fun _ => ?_)
    repeat refine Wp.p rfl ?_
    refine Wp.i rfl (s_m_kind hW ha ?_)
    repeat refine Wp.p rfl ?_
    have ek' : kd (dV S) (S.2.2 361 (tn a)) = nI t := ek
    rw [ek']
    refine Wp.i rfl (s_m_isOf ty (by omega) t t1 t9 ?_)
    by_cases hB1 : hB (m_sv 500 ty) (nI t)
    · rw [bI_t hB1]
      refine Wp.b rfl (fun (e : (1 : Int32) = 0) => absurd e (by decide)) (fun _ => ?_)
      repeat refine Wp.p rfl ?_
      refine Wp.r rfl trivial (h _ (Fr.rf.f (by decide)) rfl (show c = nxS (dV S) 4 a (nI ty) c (S.1 264) from (if_pos ?_).symm) rfl)
      rw [ek, tb]
      exact hB1
    · rw [bI_f hB1]
      refine Wp.b rfl (fun _ => ?_) (fun (e : ¬ (0 : Int32) = 0) => absurd rfl e)
      repeat refine Wp.p rfl ?_
      refine Wp.r rfl trivial (h _ (Fr.rf.f (by decide)) rfl (show S.1 264 = nxS (dV S) 4 a (nI ty) c (S.1 264) from (if_neg ?_).symm) rfl)
      rw [ek, tb]
      exact hB1
theorem q_5 (hW : WFk k0 (dV S)) (hw : wS 5 a b c) (h : DQ S 5 a b c Q) : Wp (d + 3) n_X6_doStep 35 [(4, .int c), (3, .int b), (2, .int a), (0, .ref 6), (1, .int (nI i))] [.int (nI 5)] S Q := by
  have ha := hw.2.1.1 rfl
  refine Wp.p (pc' := 240) rfl ?_
  repeat refine Wp.p rfl ?_
  refine Wp.g rfl (inV ha) ?_
  rcases dv_c hW (wf_ref hW ha) with ⟨er, ek⟩ | ⟨j, t, hj, hk, er, t1, t9, ht, ek⟩
  · have er' : S.2.2 361 (tn a) = -1 := er
    refine Wp.b rfl (fun (q : 0 ≤ S.2.2 361 (tn a)) => absurd (er' ▸ q) m1_lt0) (fun _ => ?_)
    repeat refine Wp.p rfl ?_
    exact Wp.r rfl trivial (h _ (Fr.rf.f (by decide)) rfl (show c = nxS (dV S) 5 a b c (S.1 264) from (if_pos er).symm) rfl)
  · have er' : S.2.2 361 (tn a) = nI j := er
    refine Wp.b rfl (fun _ => ?_) (fun (q : ¬ 0 ≤ S.2.2 361 (tn a)) => absurd (by rw [er']; exact nI_pos' (by omega)) q)
    repeat refine Wp.p rfl ?_
    refine Wp.r rfl trivial (h _ (Fr.rf.f (by decide)) rfl (show S.1 264 = nxS (dV S) 5 a b c (S.1 264) from (if_neg (fun e => ?_)).symm) rfl)
    have e2 : nI j = -1 := er.symm.trans e
    exact m1_lt0 (e2 ▸ nI_pos' (by omega))
theorem q_6 (hW : WFk k0 (dV S)) (hw : wS 6 a b c) (h : DQ S 6 a b c Q) : Wp (d + 3) n_X6_doStep 35 [(4, .int c), (3, .int b), (2, .int a), (0, .ref 6), (1, .int (nI i))] [.int (nI 6)] S Q := by
  have ha := hw.2.1.1 rfl
  have hb := hw.2.2.1.2.2.2.2.1 rfl
  have hc := hw.2.2.2.1 rfl
  refine Wp.p (pc' := 264) rfl ?_
  obtain ⟨ty, -, hty, rfl⟩ := of_rng (lo := 0) (hi := 10) rfl rfl (by decide) (by decide) hb.1 (show b ≤ 10 from Int32.le_iff_toInt_le.mpr (by have := Int32.lt_iff_toInt_lt.mp hb.2; rw [show (11 : Int32).toInt = 11 from rfl] at this; rw [show (10 : Int32).toInt = 10 from rfl]; omega))
  have tb : tn (nI ty) = ty := tn_nI (by omega)
  obtain ⟨j, hj, ej⟩ := kd_10 hW (wf_ref hW ha)
  have o1 := or1_k ty (by omega) j hj
  repeat refine Wp.p rfl ?_
  refine Wp.i rfl (s_m_isWrong (ty := ty) hW ha (by omega) ?_)
  have ej' : kd (dV S) (S.2.2 361 (tn a)) = nI j := ej
  rw [ej']
  by_cases hq : ¬ nI j = 0 ∧ ¬ hB (m_sv 500 ty) (nI j)
  · rw [bI_t hq]
    refine Wp.b rfl (fun (e : (1 : Int32) = 0) => absurd e (by decide)) (fun _ => ?_)
    repeat refine Wp.p rfl ?_
    refine Wp.r rfl trivial (h.no (if_neg ?_) rfl (by decide))
    rw [tb, ej]
    exact fun z => (o1.mp z).elim hq.1 hq.2
  · rw [bI_f hq]
    refine Wp.b rfl (fun _ => ?_) (fun (e : ¬ (0 : Int32) = 0) => absurd rfl e)
    repeat refine Wp.p rfl ?_
    refine Wp.g rfl (inV ha) ?_
    refine Wp.g rfl (inV hc) ?_
    repeat refine Wp.p rfl ?_
    refine Wp.r rfl trivial (h.go (m := stV (dV S) (tn c) (gV (dV S) (tn a))) (if_pos ?_) (Fr.rf.a (by decide)) rfl rfl rfl)
    rw [tb, ej]
    refine o1.mpr ?_
    by_cases z : nI j = 0
    · exact Or.inl z
    · exact Or.inr (Decidable.not_not.mp (fun y => hq ⟨z, y⟩))
theorem q_7 (hW : WFk k0 (dV S)) (hw : wS 7 a b c) (h : DQ S 7 a b c Q) : Wp (d + 3) n_X6_doStep 35 [(4, .int c), (3, .int b), (2, .int a), (0, .ref 6), (1, .int (nI i))] [.int (nI 7)] S Q := by
  have ha := hw.2.1.1 rfl
  have hb := hw.2.2.1.1 rfl
  refine Wp.p (pc' := 290) rfl ?_
  repeat refine Wp.p rfl ?_
  refine Wp.i rfl (s_m_isWrong (ty := 1) hW hb (by decide) ?_)
  have em : m_sv 500 1 = 30 := by decide
  rw [em]
  rcases dv_c hW (wf_ref hW hb) with ⟨er, ek⟩ | ⟨j, t, hj, hk, er, t1, t9, ht, ek⟩
  · have er' : S.2.2 361 (tn b) = -1 := er
    rw [bI_f (fun z => z.1 ek)]
    refine Wp.b rfl (fun (e : ¬ (0 : Int32) = 0) => absurd rfl e) (fun _ => ?_)
    repeat refine Wp.p rfl ?_
    refine Wp.g rfl (inV hb) ?_
    refine Wp.b rfl (fun (c : 0 ≤ S.2.2 361 (tn b)) => absurd (er' ▸ c) m1_lt0) (fun _ => ?_)
    repeat refine Wp.p rfl ?_
    refine Wp.g rfl (inV hb) ?_
    refine Wp.b rfl (fun (c : 0 ≤ S.2.2 361 (tn b)) => absurd (er' ▸ c) m1_lt0) (fun _ => ?_)
    repeat refine Wp.p rfl ?_
    exact Wp.r rfl trivial (h.no (ite_no (uFm_1 ek) (by decide)) rfl (by decide))
  · have er' : S.2.2 361 (tn b) = nI j := er
    have hpos : 0 ≤ S.2.2 361 (tn b) := by rw [er']; exact nI_pos' (by omega)
    have nz : ¬ kd (dV S) (S.2.2 361 (tn b)) = 0 := fun e => by
      have := (nI_eq (a := t) (b := 0) (by omega) (by decide)).mp (ek.symm.trans e)
      omega
    by_cases hbb : hB 30 (kd (dV S) (S.2.2 361 (tn b)))
    · rw [bI_f (fun z => z.2 hbb)]
      refine Wp.b rfl (fun (e : ¬ (0 : Int32) = 0) => absurd rfl e) (fun _ => ?_)
      repeat refine Wp.p rfl ?_
      refine Wp.g rfl (inV hb) ?_
      refine Wp.b rfl (fun _ => ?_) (fun (c : ¬ 0 ≤ S.2.2 361 (tn b)) => absurd hpos c)
      repeat refine Wp.p rfl ?_
      refine Wp.g rfl (inV hb) ?_
      refine Wp.g rfl (show vp_in (S.2.2 361 (tn b)) 500 by rw [er']; exact vp_in_nI (by omega) (by omega)) ?_
      refine Wp.g rfl (inV ha) ?_
      repeat refine Wp.p rfl ?_
      exact Wp.r rfl trivial (h.go (ite_yes (uFm_0 nz hbb)) (Fr.rf.a (by decide)) rfl rfl rfl)
    · rw [bI_t ⟨nz, hbb⟩]
      refine Wp.b rfl (fun _ => ?_) (fun (e : ¬ ¬ (1 : Int32) = 0) => absurd (by decide) e)
      repeat refine Wp.p rfl ?_
      refine Wp.g rfl (inV hb) ?_
      refine Wp.b rfl (fun _ => ?_) (fun (c : ¬ 0 ≤ S.2.2 361 (tn b)) => absurd hpos c)
      repeat refine Wp.p rfl ?_
      exact Wp.r rfl trivial (h.no (ite_no (uFm_2 nz hbb) (by decide)) rfl (by decide))
theorem q_8 (hW : WFk k0 (dV S)) (hw : wS 8 a b c) (h : DQ S 8 a b c Q) : Wp (d + 3) n_X6_doStep 35 [(4, .int c), (3, .int b), (2, .int a), (0, .ref 6), (1, .int (nI i))] [.int (nI 8)] S Q := by
  have ha := hw.2.1.1 rfl
  have hb := hw.2.2.1.1 rfl
  refine Wp.p (pc' := 342) rfl ?_
  repeat refine Wp.p rfl ?_
  refine Wp.i rfl (s_m_isWrong (ty := 1) hW ha (by decide) ?_)
  have em : m_sv 500 1 = 30 := by decide
  rw [em]
  rcases dv_c hW (wf_ref hW ha) with ⟨er, ek⟩ | ⟨j, t, hj, hk, er, t1, t9, ht, ek⟩
  · have er' : S.2.2 361 (tn a) = -1 := er
    rw [bI_f (fun z => z.1 ek)]
    refine Wp.b rfl (fun (e : ¬ (0 : Int32) = 0) => absurd rfl e) (fun _ => ?_)
    repeat refine Wp.p rfl ?_
    refine Wp.g rfl (inV ha) ?_
    refine Wp.b rfl (fun (c : 0 ≤ S.2.2 361 (tn a)) => absurd (er' ▸ c) m1_lt0) (fun _ => ?_)
    repeat refine Wp.p rfl ?_
    refine Wp.g rfl (inV ha) ?_
    refine Wp.b rfl (fun (c : 0 ≤ S.2.2 361 (tn a)) => absurd (er' ▸ c) m1_lt0) (fun _ => ?_)
    repeat refine Wp.p rfl ?_
    exact Wp.r rfl trivial (h.no (ite_no (uFm_1 ek) (by decide)) rfl (by decide))
  · have er' : S.2.2 361 (tn a) = nI j := er
    have hpos : 0 ≤ S.2.2 361 (tn a) := by rw [er']; exact nI_pos' (by omega)
    have nz : ¬ kd (dV S) (S.2.2 361 (tn a)) = 0 := fun e => by
      have := (nI_eq (a := t) (b := 0) (by omega) (by decide)).mp (ek.symm.trans e)
      omega
    by_cases hbb : hB 30 (kd (dV S) (S.2.2 361 (tn a)))
    · rw [bI_f (fun z => z.2 hbb)]
      refine Wp.b rfl (fun (e : ¬ (0 : Int32) = 0) => absurd rfl e) (fun _ => ?_)
      repeat refine Wp.p rfl ?_
      refine Wp.g rfl (inV ha) ?_
      refine Wp.b rfl (fun _ => ?_) (fun (c : ¬ 0 ≤ S.2.2 361 (tn a)) => absurd hpos c)
      repeat refine Wp.p rfl ?_
      refine Wp.g rfl (inV ha) ?_
      repeat refine Wp.p rfl ?_
      refine Wp.g rfl (inV hb) ?_
      refine Wp.g rfl (show vp_in (S.2.2 361 (tn a)) 500 by rw [er']; exact vp_in_nI (by omega) (by omega)) ?_
      repeat refine Wp.p rfl ?_
      exact Wp.r rfl trivial (h.go (ite_yes (uFm_0 nz hbb)) (Fr.rf.a (by decide)) rfl rfl rfl)
    · rw [bI_t ⟨nz, hbb⟩]
      refine Wp.b rfl (fun _ => ?_) (fun (e : ¬ ¬ (1 : Int32) = 0) => absurd (by decide) e)
      repeat refine Wp.p rfl ?_
      refine Wp.g rfl (inV ha) ?_
      refine Wp.b rfl (fun _ => ?_) (fun (c : ¬ 0 ≤ S.2.2 361 (tn a)) => absurd hpos c)
      repeat refine Wp.p rfl ?_
      exact Wp.r rfl trivial (h.no (ite_no (uFm_2 nz hbb) (by decide)) rfl (by decide))
theorem q_9 (hW : WFk k0 (dV S)) (hw : wS 9 a b c) (h : DQ S 9 a b c Q) : Wp (d + 3) n_X6_doStep 35 [(4, .int c), (3, .int b), (2, .int a), (0, .ref 6), (1, .int (nI i))] [.int (nI 9)] S Q := by
  have ha := hw.2.1.1 rfl
  have hb := hw.2.2.1.1 rfl
  have hc := hw.2.2.2.2.1 rfl
  refine Wp.p (pc' := 394) rfl ?_
  repeat refine Wp.p rfl ?_
  refine Wp.i rfl (s_m_isWrong (ty := 8) hW hb (by decide) ?_)
  have em : m_sv 500 8 = 384 := by decide
  rw [em]
  rcases dv_c hW (wf_ref hW hb) with ⟨er, ek⟩ | ⟨j, t, hj, hk, er, t1, t9, ht, ek⟩
  · have er' : S.2.2 361 (tn b) = -1 := er
    rw [bI_f (fun z => z.1 ek)]
    refine Wp.b rfl (fun (e : ¬ (0 : Int32) = 0) => absurd rfl e) (fun _ => ?_)
    repeat refine Wp.p rfl ?_
    refine Wp.g rfl (inV hb) ?_
    refine Wp.b rfl (fun (c : 0 ≤ S.2.2 361 (tn b)) => absurd (er' ▸ c) m1_lt0) (fun _ => ?_)
    repeat refine Wp.p rfl ?_
    refine Wp.g rfl (inV hb) ?_
    refine Wp.b rfl (fun (c : 0 ≤ S.2.2 361 (tn b)) => absurd (er' ▸ c) m1_lt0) (fun _ => ?_)
    repeat refine Wp.p rfl ?_
    exact Wp.r rfl trivial (h.no (ite_no (cFm_1 ek) (by decide)) rfl (by decide))
  · have er' : S.2.2 361 (tn b) = nI j := er
    have hpos : 0 ≤ S.2.2 361 (tn b) := by rw [er']; exact nI_pos' (by omega)
    have nz : ¬ kd (dV S) (S.2.2 361 (tn b)) = 0 := fun e => by
      have := (nI_eq (a := t) (b := 0) (by omega) (by decide)).mp (ek.symm.trans e)
      omega
    by_cases hbb : hB 384 (kd (dV S) (S.2.2 361 (tn b)))
    · rw [bI_f (fun z => z.2 hbb)]
      refine Wp.b rfl (fun (e : ¬ (0 : Int32) = 0) => absurd rfl e) (fun _ => ?_)
      repeat refine Wp.p rfl ?_
      refine Wp.g rfl (inV hb) ?_
      refine Wp.b rfl (fun _ => ?_) (fun (c : ¬ 0 ≤ S.2.2 361 (tn b)) => absurd hpos c)
      repeat refine Wp.p rfl ?_
      refine Wp.g rfl (inV hb) ?_
      repeat refine Wp.p rfl ?_
      refine Wp.g rfl (inN hc) ?_
      obtain ⟨-, ⟨n, hn, en, -⟩, -⟩ := hW.2.2.2 j hj
      have en1 : S.2.2 359 (tn (S.2.2 361 (tn b))) = nI n := by rw [er', tn_nI (by omega)]; exact en
      refine Wp.i rfl (s_m_isCell (o := S.2.2 361 (tn b)) (x := S.2.2 362 (tn c)) (show vp_in (S.2.2 361 (tn b)) 500 by rw [er']; exact vp_in_nI (by omega) (by omega)) en1 hn ?_)
      by_cases hcc : 0 ≤ S.2.2 362 (tn c) ∧ S.2.2 362 (tn c) < nI n
      case neg =>
        rw [bI_f hcc]
        refine Wp.b rfl (fun (e : ¬ (0 : Int32) = 0) => absurd rfl e) (fun _ => ?_)
        repeat refine Wp.p rfl ?_
        exact Wp.r rfl trivial (h.no (ite_no (cFm_3 nz hbb (by rw [show gL (dV S) (tn (gV (dV S) (tn b))) = nI n from en1]; exact hcc)) (by decide)) rfl (by decide))
      rw [bI_t hcc]
      refine Wp.b rfl (fun _ => ?_) (fun (e : ¬ ¬ (1 : Int32) = 0) => absurd (by decide) e)
      have hl : S.2.2 362 (tn c) < gL (dV S) (tn (S.2.2 361 (tn b))) := by rw [show gL (dV S) (tn (S.2.2 361 (tn b))) = nI n from en1]; exact hcc.2
      obtain ⟨ix1, ix2, ix3⟩ := wf_ix hW (wf_ref hW hb) nz hcc.1 hl
      have ix4 : 20 * S.2.2 361 (tn b) + S.2.2 362 (tn c) = nI (20 * tn (S.2.2 361 (tn b)) + tn (S.2.2 362 (tn c))) := by rw [Int32.mul_comm]; exact ix1
      have ix2' : 20 * tn (S.2.2 361 (tn b)) + tn (S.2.2 362 (tn c)) < 800 := ix2
      have ix5 : vp_in (20 * S.2.2 361 (tn b) + S.2.2 362 (tn c)) 10000 := by rw [ix4]; exact vp_in_nI (by omega) (by omega)
      have ix6 : tn (20 * S.2.2 361 (tn b) + S.2.2 362 (tn c)) = 20 * tn (S.2.2 361 (tn b)) + tn (S.2.2 362 (tn c)) := by rw [ix4]; exact tn_nI (by omega)
      repeat refine Wp.p rfl ?_
      refine Wp.g rfl (inV hb) ?_
      repeat refine Wp.p rfl ?_
      refine Wp.g rfl (inN hc) ?_
      repeat refine Wp.p rfl ?_
      refine Wp.g rfl ix5 ?_
      refine Wp.g rfl (inV ha) ?_
      repeat refine Wp.p rfl ?_
      refine Wp.r rfl trivial (h.go (ite_yes (cFm_0 nz hbb hcc.1 hl)) (Fr.rf.a (by decide)) ?_ rfl rfl)
      show (upd (S.2.2 361) (tn a) (S.2.2 360 (tn (20 * S.2.2 361 (tn b) + S.2.2 362 (tn c)))), _) = _
      rw [ix6]
      rfl
    · rw [bI_t ⟨nz, hbb⟩]
      refine Wp.b rfl (fun _ => ?_) (fun (e : ¬ ¬ (1 : Int32) = 0) => absurd (by decide) e)
      repeat refine Wp.p rfl ?_
      refine Wp.g rfl (inV hb) ?_
      refine Wp.b rfl (fun _ => ?_) (fun (c : ¬ 0 ≤ S.2.2 361 (tn b)) => absurd hpos c)
      repeat refine Wp.p rfl ?_
      exact Wp.r rfl trivial (h.no (ite_no (cFm_2 nz hbb) (by decide)) rfl (by decide))
theorem q_11 (hW : WFk k0 (dV S)) (hi : i < 32) (hco : S.2.2 342 i = nI 11) (hw : wS 11 a b c) (h : DQ S 11 a b c Q) : Wp (d + 3) n_X6_doStep 35 [(4, .int c), (3, .int b), (2, .int a), (0, .ref 6), (1, .int (nI i))] [.int (nI 11)] S Q := by
  have ha := hw.2.1.2.1 rfl
  have hb := hw.2.2.1.1 rfl
  refine Wp.p (pc' := 489) rfl ?_
  repeat refine Wp.p rfl ?_
  refine Wp.i rfl (s_m_isWrong (ty := 5) hW hb (by decide) ?_)
  have em : m_sv 500 5 = 20 := by decide
  rw [em]
  rcases dv_c hW (wf_ref hW hb) with ⟨er, ek⟩ | ⟨j, t, hj, hk, er, t1, t9, ht, ek⟩
  · have er' : S.2.2 361 (tn b) = -1 := er
    rw [bI_f (fun z => z.1 ek)]
    refine Wp.b rfl (fun (e : ¬ (0 : Int32) = 0) => absurd rfl e) (fun _ => ?_)
    repeat refine Wp.p rfl ?_
    refine Wp.g rfl (inV hb) ?_
    refine Wp.b rfl (fun (c : 0 ≤ S.2.2 361 (tn b)) => absurd (er' ▸ c) m1_lt0) (fun _ => ?_)
    repeat refine Wp.p rfl ?_
    refine Wp.g rfl (inV hb) ?_
    refine Wp.b rfl (fun (c : 0 ≤ S.2.2 361 (tn b)) => absurd (er' ▸ c) m1_lt0) (fun _ => ?_)
    repeat refine Wp.p rfl ?_
    exact Wp.r rfl trivial (h.no (ite_no (uFm_1 ek) (by decide)) rfl (by decide))
  · have er' : S.2.2 361 (tn b) = nI j := er
    have hpos : 0 ≤ S.2.2 361 (tn b) := by rw [er']; exact nI_pos' (by omega)
    have nz : ¬ kd (dV S) (S.2.2 361 (tn b)) = 0 := fun e => by
      have := (nI_eq (a := t) (b := 0) (by omega) (by decide)).mp (ek.symm.trans e)
      omega
    by_cases hbb : hB 20 (kd (dV S) (S.2.2 361 (tn b)))
    · rw [bI_f (fun z => z.2 hbb)]
      refine Wp.b rfl (fun (e : ¬ (0 : Int32) = 0) => absurd rfl e) (fun _ => ?_)
      repeat refine Wp.p rfl ?_
      refine Wp.g rfl (inV hb) ?_
      refine Wp.b rfl (fun _ => ?_) (fun (c : ¬ 0 ≤ S.2.2 361 (tn b)) => absurd hpos c)
      repeat refine Wp.p rfl ?_
      refine Wp.g rfl (inV hb) ?_
      repeat refine Wp.p rfl ?_
      have ti : tn (nI i) = i := tn_nI (by omega)
      have etag : S.2.2 357 (tn (S.2.2 361 (tn b))) = kd (dV S) (S.2.2 361 (tn b)) := by
        rw [show kd (dV S) (S.2.2 361 (tn b)) = nI t from ek, er', tn_nI (by omega)]
        exact ht
      refine Wp.g rfl (vp_in_nI (N := 32) hi (by omega)) ?_
      repeat refine Wp.p rfl ?_
      refine Wp.b rfl (fun _ => ?_) (fun (e : ¬ ¬ S.2.2 342 (tn (nI i)) = 12) => absurd (by rw [ti, hco]; decide) e)
      repeat refine Wp.p rfl ?_
      refine Wp.i rfl (s_m_tag (m := dV S) (by decide) (show vp_in (S.2.2 361 (tn b)) 500 by rw [er']; exact vp_in_nI (by omega) (by omega)) etag ?_)
      refine Wp.g rfl (inN ha) ?_
      repeat refine Wp.p rfl ?_
      exact Wp.r rfl trivial (h.go (ite_yes (uFm_0 nz hbb)) (Fr.rf.a (by decide)) rfl rfl rfl)
    · rw [bI_t ⟨nz, hbb⟩]
      refine Wp.b rfl (fun _ => ?_) (fun (e : ¬ ¬ (1 : Int32) = 0) => absurd (by decide) e)
      repeat refine Wp.p rfl ?_
      refine Wp.g rfl (inV hb) ?_
      refine Wp.b rfl (fun _ => ?_) (fun (c : ¬ 0 ≤ S.2.2 361 (tn b)) => absurd hpos c)
      repeat refine Wp.p rfl ?_
      exact Wp.r rfl trivial (h.no (ite_no (uFm_2 nz hbb) (by decide)) rfl (by decide))
theorem q_12 (hW : WFk k0 (dV S)) (hi : i < 32) (hco : S.2.2 342 i = nI 12) (hw : wS 12 a b c) (h : DQ S 12 a b c Q) : Wp (d + 3) n_X6_doStep 35 [(4, .int c), (3, .int b), (2, .int a), (0, .ref 6), (1, .int (nI i))] [.int (nI 12)] S Q := by
  have ha := hw.2.1.2.1 rfl
  have hb := hw.2.2.1.1 rfl
  refine Wp.p (pc' := 489) rfl ?_
  repeat refine Wp.p rfl ?_
  refine Wp.i rfl (s_m_isWrong (ty := 5) hW hb (by decide) ?_)
  have em : m_sv 500 5 = 20 := by decide
  rw [em]
  rcases dv_c hW (wf_ref hW hb) with ⟨er, ek⟩ | ⟨j, t, hj, hk, er, t1, t9, ht, ek⟩
  · have er' : S.2.2 361 (tn b) = -1 := er
    rw [bI_f (fun z => z.1 ek)]
    refine Wp.b rfl (fun (e : ¬ (0 : Int32) = 0) => absurd rfl e) (fun _ => ?_)
    repeat refine Wp.p rfl ?_
    refine Wp.g rfl (inV hb) ?_
    refine Wp.b rfl (fun (c : 0 ≤ S.2.2 361 (tn b)) => absurd (er' ▸ c) m1_lt0) (fun _ => ?_)
    repeat refine Wp.p rfl ?_
    refine Wp.g rfl (inV hb) ?_
    refine Wp.b rfl (fun (c : 0 ≤ S.2.2 361 (tn b)) => absurd (er' ▸ c) m1_lt0) (fun _ => ?_)
    repeat refine Wp.p rfl ?_
    exact Wp.r rfl trivial (h.no (ite_no (uFm_1 ek) (by decide)) rfl (by decide))
  · have er' : S.2.2 361 (tn b) = nI j := er
    have hpos : 0 ≤ S.2.2 361 (tn b) := by rw [er']; exact nI_pos' (by omega)
    have nz : ¬ kd (dV S) (S.2.2 361 (tn b)) = 0 := fun e => by
      have := (nI_eq (a := t) (b := 0) (by omega) (by decide)).mp (ek.symm.trans e)
      omega
    by_cases hbb : hB 20 (kd (dV S) (S.2.2 361 (tn b)))
    · rw [bI_f (fun z => z.2 hbb)]
      refine Wp.b rfl (fun (e : ¬ (0 : Int32) = 0) => absurd rfl e) (fun _ => ?_)
      repeat refine Wp.p rfl ?_
      refine Wp.g rfl (inV hb) ?_
      refine Wp.b rfl (fun _ => ?_) (fun (c : ¬ 0 ≤ S.2.2 361 (tn b)) => absurd hpos c)
      repeat refine Wp.p rfl ?_
      refine Wp.g rfl (inV hb) ?_
      repeat refine Wp.p rfl ?_
      have ti : tn (nI i) = i := tn_nI (by omega)
      have etag : S.2.2 357 (tn (S.2.2 361 (tn b))) = kd (dV S) (S.2.2 361 (tn b)) := by
        rw [show kd (dV S) (S.2.2 361 (tn b)) = nI t from ek, er', tn_nI (by omega)]
        exact ht
      refine Wp.g rfl (vp_in_nI (N := 32) hi (by omega)) ?_
      repeat refine Wp.p rfl ?_
      refine Wp.b rfl (fun (e : ¬ S.2.2 342 (tn (nI i)) = 12) => absurd (by rw [ti, hco]; decide) e) (fun _ => ?_)
      repeat refine Wp.p rfl ?_
      refine Wp.i rfl (s_m_tag (m := dV S) (by decide) (show vp_in (S.2.2 361 (tn b)) 500 by rw [er']; exact vp_in_nI (by omega) (by omega)) etag ?_)
      refine Wp.g rfl (inN ha) ?_
      repeat refine Wp.p rfl ?_
      exact Wp.r rfl trivial (h.go (ite_yes (uFm_0 nz hbb)) (Fr.rf.a (by decide)) rfl rfl rfl)
    · rw [bI_t ⟨nz, hbb⟩]
      refine Wp.b rfl (fun _ => ?_) (fun (e : ¬ ¬ (1 : Int32) = 0) => absurd (by decide) e)
      repeat refine Wp.p rfl ?_
      refine Wp.g rfl (inV hb) ?_
      refine Wp.b rfl (fun _ => ?_) (fun (c : ¬ 0 ≤ S.2.2 361 (tn b)) => absurd hpos c)
      repeat refine Wp.p rfl ?_
      exact Wp.r rfl trivial (h.no (ite_no (uFm_2 nz hbb) (by decide)) rfl (by decide))
end MF
