theorem uFm_1 {m : mM} {r k : Int32} (h : kd m r = 0) : uFm m r k = 1 := if_pos h
theorem uFm_0 {m : mM} {r k : Int32} (h : ¬ kd m r = 0) (h2 : hB k (kd m r)) : uFm m r k = 0 := by unfold uFm; rw [if_neg h, if_pos h2]
theorem uFm_2 {m : mM} {r k : Int32} (h : ¬ kd m r = 0) (h2 : ¬ hB k (kd m r)) : uFm m r k = 2 := by unfold uFm; rw [if_neg h, if_neg h2]
theorem cFm_1 {m : mM} {r k x : Int32} (h : kd m r = 0) : cFm m r k x = 1 := if_pos h
theorem cFm_2 {m : mM} {r k x : Int32} (h : ¬ kd m r = 0) (h2 : ¬ hB k (kd m r)) : cFm m r k x = 2 := by unfold cFm; rw [if_neg h, if_neg h2]
theorem cFm_3 {m : mM} {r k x : Int32} (h : ¬ kd m r = 0) (h2 : hB k (kd m r)) (h3 : ¬ (0 ≤ x ∧ x < gL m (tn r))) : cFm m r k x = 3 := by unfold cFm; rw [if_neg h, if_pos h2, if_neg h3]
theorem cFm_0 {m : mM} {r k x : Int32} (h : ¬ kd m r = 0) (h2 : hB k (kd m r)) (h3 : 0 ≤ x) (h4 : x < gL m (tn r)) : cFm m r k x = 0 := by unfold cFm; rw [if_neg h, if_pos h2, if_pos ⟨h3, h4⟩]
theorem wf_ix {k0 : Nat} {m : mM} {r x : Int32} (hW : WFk k0 m) (hr : vr k0 r) (h : ¬ kd m r = 0) (h0 : 0 ≤ x) (h1 : x < gL m (tn r)) : r * 20 + x = nI (20 * tn r + tn x) ∧ 20 * tn r + tn x < 800 ∧ tn (r * 20 + x) = 20 * tn r + tn x := by
  obtain ⟨hk, h5, hV, hO⟩ := hW
  obtain ⟨-, j, hj, rfl⟩ := vr_in hk hr h
  have tj : tn (nI j) = j := tn_nI (by omega)
  obtain ⟨-, ⟨n, hn, en, -⟩, -⟩ := hO j hj
  rw [tj, en] at h1
  obtain ⟨x', hx', rfl⟩ := nI_of (Int32.not_lt.mpr h0)
  have hlt := (nI_ltI hx' (by omega)).mp h1
  rw [tj, tn_nI hx', ix20]
  exact ⟨rfl, by omega, tn_nI (by omega)⟩
theorem wf_m {k0 : Nat} {S : mS} (hW : WFk k0 (cV S)) : (S.1 5).toInt ≤ 40 := by
  obtain ⟨hk, h5, -⟩ := hW
  rw [show S.1 5 = nI k0 from h5, nI_toInt (by omega)]
  omega
theorem wf_v {k0 : Nat} {S : mS} {a : Int32} (hW : WFk k0 (cV S)) (ha : 0 ≤ a ∧ a < 6) : vr k0 (S.2.2 143 (tn a)) := hW.2.2.1 _ (inVt ha)
theorem wf_k {k0 : Nat} {S : mS} {r : Int32} (hW : WFk k0 (cV S)) (hr : vr k0 r) : kOf S r = kd (cV S) r := kOf_kd hW.2.1 hW.1 (Or.inl hr)
theorem wf_r {k0 : Nat} {S : mS} {r : Int32} (hW : WFk k0 (cV S)) (hr : vr k0 r) : ¬ kOf S r = 0 → vp_in r 40 := fun q => (vr_in (m := cV S) hW.1 hr (by rw [← wf_k hW hr]; exact q)).1
theorem wf_c {k0 : Nat} {S : mS} {r x : Int32} (hW : WFk k0 (cV S)) (hr : vr k0 r) : ¬ kOf S r = 0 → 0 ≤ x → x < S.2.2 101 r.toNatClampNeg → vp_in (r * 20 + x) 800 := fun q q0 q1 => by
  obtain ⟨e, hl, -⟩ := wf_ix hW hr (by rw [← wf_k hW hr]; exact q) q0 q1
  rw [e]
  exact vp_in_nI hl (by omega)
theorem ite_no {x y : Int32} {A : Int32 × mM} {m : mM} (e : y = x) (hx : ¬ x = 0) : (if y = 0 then A else (y, m)) = (x, m) := by subst e; rw [if_neg hx]
theorem ite_yes {y : Int32} {A B : Int32 × mM} (e : y = 0) : (if y = 0 then A else B) = A := if_pos e
section DO
variable {m : mM} {a b c x : Int32}
theorem d10_2 (h : ¬ hB 385 (kd m (gV m (tn a))) ∨ ¬ hB 31 (kd m (gV m (tn b)))) : doS m 10 a b c = (2, m) := if_pos h
theorem d10_f (h1 : hB 385 (kd m (gV m (tn a)))) (h2 : hB 31 (kd m (gV m (tn b)))) (e : cFm m (gV m (tn a)) 384 (gN m (tn c)) = x) (hx : ¬ x = 0) : doS m 10 a b c = (x, m) := by
  have h3 : ¬ (¬ hB 385 (kd m (gV m (tn a))) ∨ ¬ hB 31 (kd m (gV m (tn b)))) := fun z => z.elim (fun z => z h1) (fun z => z h2)
  exact (if_neg h3).trans (ite_no e hx)
theorem d10_4 (h1 : hB 385 (kd m (gV m (tn a)))) (h2 : hB 31 (kd m (gV m (tn b)))) (e : cFm m (gV m (tn a)) 384 (gN m (tn c)) = 0) (h4 : ¬ hB (m_sv 501 (tn (kd m (gV m (tn a))))) (kd m (gV m (tn b)))) : doS m 10 a b c = (4, m) := by
  have h3 : ¬ (¬ hB 385 (kd m (gV m (tn a))) ∨ ¬ hB 31 (kd m (gV m (tn b)))) := fun z => z.elim (fun z => z h1) (fun z => z h2)
  exact (if_neg h3).trans ((if_pos e).trans (if_neg h4))
theorem d10_0 (h1 : hB 385 (kd m (gV m (tn a)))) (h2 : hB 31 (kd m (gV m (tn b)))) (e : cFm m (gV m (tn a)) 384 (gN m (tn c)) = 0) (h4 : hB (m_sv 501 (tn (kd m (gV m (tn a))))) (kd m (gV m (tn b)))) : doS m 10 a b c = (0, stC m (20 * tn (gV m (tn a)) + tn (gN m (tn c))) (gV m (tn b))) := by
  have h3 : ¬ (¬ hB 385 (kd m (gV m (tn a))) ∨ ¬ hB 31 (kd m (gV m (tn b)))) := fun z => z.elim (fun z => z h1) (fun z => z h2)
  exact (if_neg h3).trans ((if_pos e).trans (if_pos h4))
end DO
theorem b385 : ∀ j, j < 10 → (hB 385 (nI j) ↔ nI j = 0 ∨ hB 384 (nI j)) := by decide
/-- the kind of a reference is one of ten -/
theorem kd_10 {k0 : Nat} {m : mM} {r : Int32} (hW : WFk k0 m) (hr : vr k0 r) : ∃ j, j < 10 ∧ kd m r = nI j := by
  by_cases q : kd m r = 0
  · exact ⟨0, by omega, q⟩
  · obtain ⟨-, j, hj, ej⟩ := vr_in hW.1 hr q
    obtain ⟨⟨t, t1, t2, et⟩, -⟩ := hW.2.2.2 j hj
    have hk := hW.1
    refine ⟨t, by omega, ?_⟩
    rw [ej]
    unfold kd
    rw [if_pos (nI_pos' (by omega)), tn_nI (by omega)]
    exact et
theorem kd_K {k0 : Nat} {m : mM} {r : Int32} (hW : WFk k0 m) (hr : vr k0 r) (q : ¬ kd m r = 0) : gK m (tn r) = kd m r ∧ vp_in (gK m (tn r)) 10 := by
  obtain ⟨-, j, hj, ej⟩ := vr_in hW.1 hr q
  obtain ⟨⟨t, t1, t2, et⟩, -⟩ := hW.2.2.2 j hj
  have hk := hW.1
  rw [ej, tn_nI (by omega), et]
  refine ⟨?_, vp_in_nI (by omega) (by omega)⟩
  unfold kd
  rw [if_pos (nI_pos' (by omega)), tn_nI (by omega)]
  exact et.symm
section PF
variable {d k0 : Nat} {S : mS} {Q : mQ} {a b c : Int32}
theorem p_1 (hW : WFk k0 (cV S)) (hw : wS 1 a b c) (h : PQ S 1 a b c Q) : Ev (d + 4) n_X1_perform [.ref 1, .int 1, .int a, .int b, .int c] S Q := by
  have ha := hw.2.1.1 rfl
  have h5 : S.1 5 = nI k0 := hW.2.1
  have hk := hW.1
  refine Wp.p rfl ?_
  refine Wp.p (pc' := 104) rfl ?_
  repeat refine Wp.p rfl ?_
  refine Wp.i rfl (s_M_makeThing (inV ha) hk h5 (fun q => ?_) (fun q S' hF f5 fv fk fl fx fc => ?_))
  · refine Wp.r rfl trivial (h.no ?_ rfl (by decide))
    exact if_pos (show S.1 5 = 40 by rw [h5, q]; rfl)
  · have hne : ¬ gM (cV S) = 40 := fun e => by
      have e2 : nI k0 = nI 40 := h5.symm.trans e
      exact absurd ((nI_eq (by omega) (by decide)).mp e2) (by omega)
    have tk : tn (S.1 5) = k0 := by rw [h5]; exact tn_nI (by omega)
    refine Wp.r rfl trivial (h.go (m := newO (cV S) (tn a) b 0) ?_ (hF.up (by decide) (by decide)) ?_ ?_ ?_ ?_)
    · exact if_neg hne
    · unfold cV newO
      rw [fv, fk, fl, fx, fc, f5, hF.2.2 144 (by decide), hF.2.2 104 (by decide)]
      show _ = (upd _ _ (S.1 5), _, upd _ (tn (S.1 5)) _, upd _ (tn (S.1 5)) _, upd _ (tn (S.1 5)) _, fillC _ (20 * tn (S.1 5)) _ (tn 0), _, S.1 5 + 1)
      rw [tk, h5, nI_1]
      rfl
    · exact hF.1 45 (by decide)
    · exact hF.1 48 (by decide)
    · exact hF.1 49 (by decide)
theorem p_2 (hW : WFk k0 (cV S)) (hw : wS 2 a b c) (h : PQ S 2 a b c Q) : Ev (d + 4) n_X1_perform [.ref 1, .int 2, .int a, .int b, .int c] S Q := by
  have ha := hw.2.1.1 rfl
  have hc := hw.2.2.2.2.1 rfl
  have h5 : S.1 5 = nI k0 := hW.2.1
  have hk := hW.1
  refine Wp.p rfl ?_
  refine Wp.p (pc' := 111) rfl ?_
  repeat refine Wp.p rfl ?_
  refine Wp.g rfl (inN hc) ?_
  refine Wp.i rfl (s_M_makeArray (inV ha) hk h5 (fun (q : S.2.2 144 (tn c) < 0) => ?_) (fun (q1 : ¬ S.2.2 144 (tn c) < 0) (q2 : 20 < S.2.2 144 (tn c) ∨ k0 = 40) => ?_) (fun len hl (el : S.2.2 144 (tn c) = nI len) q S' hF f5 fv fk fl fx fc => ?_))
  · refine Wp.r rfl trivial (h.no ?_ rfl (by decide))
    show (if S.2.2 144 (tn c) < 0 then _ else _) = _
    rw [if_pos q]
  · refine Wp.r rfl trivial (h.no ?_ rfl (by decide))
    show (if S.2.2 144 (tn c) < 0 then _ else if 20 < S.2.2 144 (tn c) ∨ S.1 5 = 40 then _ else _) = _
    rw [if_neg q1, if_pos (q2.elim Or.inl (fun e => Or.inr (by rw [h5, e]; rfl)))]
  · have hne : ¬ S.1 5 = 40 := fun e => by
      have e2 : nI k0 = nI 40 := h5.symm.trans e
      exact absurd ((nI_eq (by omega) (by decide)).mp e2) (by omega)
    have tk : tn (S.1 5) = k0 := by rw [h5]; exact tn_nI (by omega)
    have tl : tn (S.2.2 144 (tn c)) = len := by rw [el]; exact tn_nI (by omega)
    refine Wp.r rfl trivial (h.go (m := newO (cV S) (tn a) b (S.2.2 144 (tn c))) ?_ (hF.up (by decide) (by decide)) ?_ ?_ ?_ ?_)
    · show (if S.2.2 144 (tn c) < 0 then _ else if 20 < S.2.2 144 (tn c) ∨ S.1 5 = 40 then _ else _) = _
      rw [if_neg (by rw [el]; exact nI_pos (by omega)), if_neg (fun z => z.elim (fun z => absurd z (by rw [el]; exact nI_nlt (a := 20) (by omega) (by omega))) hne)]
      rfl
    · unfold cV newO
      rw [fv, fk, fl, fx, fc, f5, hF.2.2 144 (by decide), hF.2.2 104 (by decide)]
      show _ = (upd _ _ (S.1 5), _, upd _ (tn (S.1 5)) _, upd _ (tn (S.1 5)) (S.2.2 144 (tn c)), upd _ (tn (S.1 5)) _, fillC _ (20 * tn (S.1 5)) _ (tn (S.2.2 144 (tn c))), _, S.1 5 + 1)
      rw [tk, tl, h5, nI_1, el]
      rfl
    · exact hF.1 45 (by decide)
    · exact hF.1 48 (by decide)
    · exact hF.1 49 (by decide)
theorem p_6 (hW : WFk k0 (cV S)) (hw : wS 6 a b c) (h : PQ S 6 a b c Q) : Ev (d + 4) n_X1_perform [.ref 1, .int 6, .int a, .int b, .int c] S Q := by
  have ha := hw.2.1.1 rfl
  have hb := inT (hw.2.2.1.2.2.2.2.1 rfl)
  have hc := hw.2.2.2.1 rfl
  have ek := wf_k hW (wf_v hW ha)
  refine Wp.p rfl ?_
  refine Wp.p (pc' := 125) rfl ?_
  repeat refine Wp.p rfl ?_
  refine Wp.g rfl (inV ha) ?_
  repeat refine Wp.p rfl ?_
  refine Wp.i rfl (s_M_castInto (inV hc) hb (wf_m hW) (fun (q : ¬ hB (m_sv 500 (tn b) ||| 1) (kOf S (S.2.2 143 (tn a)))) => ?_) (fun (q : hB (m_sv 500 (tn b) ||| 1) (kOf S (S.2.2 143 (tn a)))) => ?_))
  · rw [ek] at q
    refine Wp.r rfl trivial (h.no ?_ rfl (by decide))
    exact if_neg q
  · rw [ek] at q
    refine Wp.r rfl trivial (h.go (if_pos q) (Fr.rf.a (by decide)) rfl rfl rfl rfl)
theorem p_7 (hW : WFk k0 (cV S)) (hw : wS 7 a b c) (h : PQ S 7 a b c Q) : Ev (d + 4) n_X1_perform [.ref 1, .int 7, .int a, .int b, .int c] S Q := by
  have ha := hw.2.1.1 rfl
  have hb := hw.2.2.1.1 rfl
  have hr := wf_v hW hb
  have ek := wf_k hW hr
  have eD : ∀ x, uFm (cV S) (S.2.2 143 (tn b)) 30 = x → ¬ x = 0 → doS (cV S) 7 a b c = (x, cV S) := fun x e hx => ite_no e hx
  refine Wp.p rfl ?_
  refine Wp.p (pc' := 139) rfl ?_
  repeat refine Wp.p rfl ?_
  refine Wp.g rfl (inV hb) ?_
  refine Wp.i rfl (s_M_getNext (r := S.2.2 143 (tn b)) (inV ha) (wf_m hW) (wf_r hW hr) (fun q => ?_) (fun q q2 => ?_) (fun q q2 => ?_))
  · rw [ek] at q
    exact Wp.r rfl trivial (h.no (eD 1 (uFm_1 q) (by decide)) rfl (by decide))
  · rw [ek] at q q2
    exact Wp.r rfl trivial (h.no (eD 2 (uFm_2 q q2) (by decide)) rfl (by decide))
  · rw [ek] at q q2
    refine Wp.r rfl trivial (h.go ?_ (Fr.rf.a (by decide)) rfl rfl rfl rfl)
    exact ite_yes (uFm_0 q q2)
theorem p_8 (hW : WFk k0 (cV S)) (hw : wS 8 a b c) (h : PQ S 8 a b c Q) : Ev (d + 4) n_X1_perform [.ref 1, .int 8, .int a, .int b, .int c] S Q := by
  have ha := hw.2.1.1 rfl
  have hb := hw.2.2.1.1 rfl
  have hr := wf_v hW ha
  have ek := wf_k hW hr
  have eD : ∀ x, uFm (cV S) (S.2.2 143 (tn a)) 30 = x → ¬ x = 0 → doS (cV S) 8 a b c = (x, cV S) := fun x e hx => ite_no e hx
  refine Wp.p rfl ?_
  refine Wp.p (pc' := 151) rfl ?_
  repeat refine Wp.p rfl ?_
  refine Wp.g rfl (inV ha) ?_
  repeat refine Wp.p rfl ?_
  refine Wp.g rfl (inV hb) ?_
  refine Wp.i rfl (s_M_setNext (r := S.2.2 143 (tn a)) (x := S.2.2 143 (tn b)) (wf_m hW) (wf_r hW hr) (fun q => ?_) (fun q q2 => ?_) (fun q q2 => ?_))
  · rw [ek] at q
    exact Wp.r rfl trivial (h.no (eD 1 (uFm_1 q) (by decide)) rfl (by decide))
  · rw [ek] at q q2
    exact Wp.r rfl trivial (h.no (eD 2 (uFm_2 q q2) (by decide)) rfl (by decide))
  · rw [ek] at q q2
    refine Wp.r rfl trivial (h.go ?_ (Fr.rf.a (by decide)) rfl rfl rfl rfl)
    exact ite_yes (uFm_0 q q2)
theorem p_9 (hW : WFk k0 (cV S)) (hw : wS 9 a b c) (h : PQ S 9 a b c Q) : Ev (d + 4) n_X1_perform [.ref 1, .int 9, .int a, .int b, .int c] S Q := by
  have ha := hw.2.1.1 rfl
  have hb := hw.2.2.1.1 rfl
  have hc := hw.2.2.2.2.1 rfl
  have hr := wf_v hW hb
  have ek := wf_k hW hr
  have eD : ∀ x, cFm (cV S) (S.2.2 143 (tn b)) 384 (S.2.2 144 (tn c)) = x → ¬ x = 0 → doS (cV S) 9 a b c = (x, cV S) := fun x e hx => ite_no e hx
  refine Wp.p rfl ?_
  refine Wp.p (pc' := 168) rfl ?_
  repeat refine Wp.p rfl ?_
  refine Wp.g rfl (inV hb) ?_
  repeat refine Wp.p rfl ?_
  refine Wp.g rfl (inN hc) ?_
  refine Wp.i rfl (s_M_getCell (r := S.2.2 143 (tn b)) (x := S.2.2 144 (tn c)) (inV ha) (wf_m hW) (wf_r hW hr) (wf_c hW hr) (fun q => ?_) (fun q q2 => ?_) (fun q q2 q3 => ?_) (fun q q2 q3 q4 => ?_))
  · rw [ek] at q
    exact Wp.r rfl trivial (h.no (eD 1 (cFm_1 q) (by decide)) rfl (by decide))
  · rw [ek] at q q2
    exact Wp.r rfl trivial (h.no (eD 2 (cFm_2 q q2) (by decide)) rfl (by decide))
  · rw [ek] at q q2
    exact Wp.r rfl trivial (h.no (eD 3 (cFm_3 q q2 q3) (by decide)) rfl (by decide))
  · rw [ek] at q q2
    have e9 := (wf_ix hW hr q q3 q4).2.2
    refine Wp.r rfl trivial (h.go (m := stV (cV S) (tn a) (S.2.2 103 (tn (S.2.2 143 (tn b) * 20 + S.2.2 144 (tn c))))) ?_ (Fr.rf.a (by decide)) rfl rfl rfl rfl)
    rw [e9]
    exact ite_yes (cFm_0 q q2 q3 q4)
theorem p_10 (hW : WFk k0 (cV S)) (hw : wS 10 a b c) (h : PQ S 10 a b c Q) : Ev (d + 4) n_X1_perform [.ref 1, .int 10, .int a, .int b, .int c] S Q := by
  have ha := hw.2.1.1 rfl
  have hb := hw.2.2.1.1 rfl
  have hc := hw.2.2.2.2.1 rfl
  have hr := wf_v hW ha
  have ek := wf_k hW hr
  have ey := wf_k hW (wf_v hW hb)
  obtain ⟨j9, hj9, ej9⟩ := kd_10 hW hr
  have b9 : hB 385 (kd (cV S) (S.2.2 143 (tn a))) ↔ kd (cV S) (S.2.2 143 (tn a)) = 0 ∨ hB 384 (kd (cV S) (S.2.2 143 (tn a))) := by rw [ej9]; exact b385 j9 hj9
  refine Wp.p rfl ?_
  refine Wp.p (pc' := 187) rfl ?_
  repeat refine Wp.p rfl ?_
  refine Wp.g rfl (inV ha) ?_
  repeat refine Wp.p rfl ?_
  refine Wp.g rfl (inN hc) ?_
  repeat refine Wp.p rfl ?_
  refine Wp.g rfl (inV hb) ?_
  refine Wp.i rfl (s_M_setCell (r := S.2.2 143 (tn a)) (x := S.2.2 144 (tn c)) (y := S.2.2 143 (tn b)) (wf_m hW) (wf_r hW hr) (fun q => (kd_K hW hr (by rw [← ek]; exact q)).2) (wf_c hW hr) (fun q => ?_) (fun q q2 q3 => ?_) (fun q q2 q3 q4 => ?_) (fun q q2 q3 q4 q5 q6 => ?_) (fun q q2 q3 q4 q5 q6 => ?_))
  · refine Wp.r rfl trivial (h.no (d10_2 ?_) rfl (by decide))
    rcases q with q | q | ⟨q, q2⟩
    · rw [ek] at q
      exact Or.inl q
    · rw [ey] at q
      exact Or.inr q
    · refine Or.inl (fun z => ?_)
      rcases b9.mp z with z | z
      · exact q (by rw [ek]; exact z)
      · exact q2 (by rw [ek]; exact z)
  · rw [ek] at q q3
    rw [ey] at q2
    exact Wp.r rfl trivial (h.no (d10_f (x := 1) q q2 (cFm_1 q3) (by decide)) rfl (by decide))
  · rw [ek] at q2 q3
    rw [ey] at q
    exact Wp.r rfl trivial (h.no (d10_f (x := 3) (b9.mpr (Or.inr q3)) q (cFm_3 q2 q3 q4) (by decide)) rfl (by decide))
  · rw [ek] at q2 q3
    rw [ey] at q q6
    have q6' : ¬ hB (m_sv 501 (tn (kd (cV S) (S.2.2 143 (tn a))))) (kd (cV S) (S.2.2 143 (tn b))) := by rw [← (kd_K hW hr q2).1]; exact q6
    exact Wp.r rfl trivial (h.no (d10_4 (b9.mpr (Or.inr q3)) q (cFm_0 q2 q3 q4 q5) q6') rfl (by decide))
  · rw [ek] at q2 q3
    rw [ey] at q q6
    have q6' : hB (m_sv 501 (tn (kd (cV S) (S.2.2 143 (tn a))))) (kd (cV S) (S.2.2 143 (tn b))) := by rw [← (kd_K hW hr q2).1]; exact q6
    have e9 := (wf_ix hW hr q2 q4 q5).2.2
    refine Wp.r rfl trivial (h.go (m := stC (cV S) (tn (S.2.2 143 (tn a) * 20 + S.2.2 144 (tn c))) (S.2.2 143 (tn b))) ?_ (Fr.rf.a (by decide)) rfl rfl rfl rfl)
    rw [e9]
    exact d10_0 (b9.mpr (Or.inr q3)) q (cFm_0 q2 q3 q4 q5) q6'
end PF
