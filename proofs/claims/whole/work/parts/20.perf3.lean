section PF
variable {d k0 : Nat} {S : mS} {Q : mQ} {a b c : Int32}
theorem p_11 (hW : WFk k0 (cV S)) (hw : wS 11 a b c) (h : PQ S 11 a b c Q) : Ev (d + 4) n_X1_perform [.ref 1, .int 11, .int a, .int b, .int c] S Q := by
  have ha := hw.2.1.2.1 rfl
  have hb := hw.2.2.1.1 rfl
  have hr := wf_v hW hb
  have ek := wf_k hW hr
  have eD : ∀ x, uFm (cV S) (S.2.2 143 (tn b)) 20 = x → ¬ x = 0 → doS (cV S) 11 a b c = (x, cV S) := fun x e hx => ite_no e hx
  refine Wp.p rfl ?_
  refine Wp.p (pc' := 211) rfl ?_
  repeat refine Wp.p rfl ?_
  refine Wp.g rfl (inV hb) ?_
  repeat refine Wp.p rfl ?_
  refine Wp.b rfl (fun (e : ¬ (11 : Int32) = 12) => ?_) (fun (e : ¬ ¬ (11 : Int32) = 12) => absurd (by decide) e)
  repeat refine Wp.p rfl ?_
  refine Wp.i rfl (s_M_askFace (r := S.2.2 143 (tn b)) (z := 0) (by decide) (inN ha) (wf_m hW) (fun q => ?_) (fun q q2 => ?_) (fun q q2 => ?_))
  · rw [ek] at q
    exact Wp.r rfl trivial (h.no (eD 1 (uFm_1 q) (by decide)) rfl (by decide))
  · rw [ek] at q q2
    exact Wp.r rfl trivial (h.no (eD 2 (uFm_2 q q2) (by decide)) rfl (by decide))
  · rw [ek] at q q2
    refine Wp.r rfl trivial (h.go (m := stN (cV S) (tn a) (faceN (cV S) (S.2.2 143 (tn b)) false)) (ite_yes (uFm_0 q q2)) (Fr.rf.a (by decide)) ?_ rfl rfl rfl)
    rw [ek]
    rfl
theorem p_12 (hW : WFk k0 (cV S)) (hw : wS 12 a b c) (h : PQ S 12 a b c Q) : Ev (d + 4) n_X1_perform [.ref 1, .int 12, .int a, .int b, .int c] S Q := by
  have ha := hw.2.1.2.1 rfl
  have hb := hw.2.2.1.1 rfl
  have hr := wf_v hW hb
  have ek := wf_k hW hr
  have eD : ∀ x, uFm (cV S) (S.2.2 143 (tn b)) 20 = x → ¬ x = 0 → doS (cV S) 12 a b c = (x, cV S) := fun x e hx => ite_no e hx
  refine Wp.p rfl ?_
  refine Wp.p (pc' := 211) rfl ?_
  repeat refine Wp.p rfl ?_
  refine Wp.g rfl (inV hb) ?_
  repeat refine Wp.p rfl ?_
  refine Wp.b rfl (fun (e : ¬ (12 : Int32) = 12) => absurd rfl e) (fun (e : ¬ ¬ (12 : Int32) = 12) => ?_)
  repeat refine Wp.p rfl ?_
  refine Wp.i rfl (s_M_askFace (r := S.2.2 143 (tn b)) (z := 1) (by decide) (inN ha) (wf_m hW) (fun q => ?_) (fun q q2 => ?_) (fun q q2 => ?_))
  · rw [ek] at q
    exact Wp.r rfl trivial (h.no (eD 1 (uFm_1 q) (by decide)) rfl (by decide))
  · rw [ek] at q q2
    exact Wp.r rfl trivial (h.no (eD 2 (uFm_2 q q2) (by decide)) rfl (by decide))
  · rw [ek] at q q2
    refine Wp.r rfl trivial (h.go (m := stN (cV S) (tn a) (faceN (cV S) (S.2.2 143 (tn b)) true)) (ite_yes (uFm_0 q q2)) (Fr.rf.a (by decide)) ?_ rfl rfl rfl)
    rw [ek]
    rfl
theorem p_13 (hW : WFk k0 (cV S)) (hw : wS 13 a b c) (h : PQ S 13 a b c Q) : Ev (d + 4) n_X1_perform [.ref 1, .int 13, .int a, .int b, .int c] S Q := by
  have ha := hw.2.1.2.1 rfl
  have hb := hw.2.2.1.1 rfl
  have hr := wf_v hW hb
  have ek := wf_k hW hr
  have eD : ∀ x, uFm (cV S) (S.2.2 143 (tn b)) 992 = x → ¬ x = 0 → doS (cV S) 13 a b c = (x, cV S) := fun x e hx => ite_no e hx
  refine Wp.p rfl ?_
  refine Wp.p (pc' := 234) rfl ?_
  repeat refine Wp.p rfl ?_
  refine Wp.g rfl (inV hb) ?_
  refine Wp.i rfl (s_M_getLength (r := S.2.2 143 (tn b)) (inN ha) (wf_m hW) (wf_r hW hr) (fun q => ?_) (fun q q2 => ?_) (fun q q2 => ?_))
  · rw [ek] at q
    exact Wp.r rfl trivial (h.no (eD 1 (uFm_1 q) (by decide)) rfl (by decide))
  · rw [ek] at q q2
    exact Wp.r rfl trivial (h.no (eD 2 (uFm_2 q q2) (by decide)) rfl (by decide))
  · rw [ek] at q q2
    exact Wp.r rfl trivial (h.go (ite_yes (uFm_0 q q2)) (Fr.rf.a (by decide)) rfl rfl rfl rfl)
theorem p_14 (hW : WFk k0 (cV S)) (hw : wS 14 a b c) (h : PQ S 14 a b c Q) : Ev (d + 4) n_X1_perform [.ref 1, .int 14, .int a, .int b, .int c] S Q := by
  have ha := hw.2.1.2.1 rfl
  have hb := hw.2.2.1.1 rfl
  have hc := hw.2.2.2.2.1 rfl
  have hr := wf_v hW hb
  have ek := wf_k hW hr
  have eD : ∀ x, cFm (cV S) (S.2.2 143 (tn b)) 32 (S.2.2 144 (tn c)) = x → ¬ x = 0 → doS (cV S) 14 a b c = (x, cV S) := fun x e hx => ite_no e hx
  refine Wp.p rfl ?_
  refine Wp.p (pc' := 246) rfl ?_
  repeat refine Wp.p rfl ?_
  refine Wp.g rfl (inV hb) ?_
  repeat refine Wp.p rfl ?_
  refine Wp.g rfl (inN hc) ?_
  refine Wp.i rfl (s_M_getInt (r := S.2.2 143 (tn b)) (x := S.2.2 144 (tn c)) (inN ha) (wf_m hW) (wf_r hW hr) (wf_c hW hr) (fun q => ?_) (fun q q2 => ?_) (fun q q2 q3 => ?_) (fun q q2 q3 q4 => ?_))
  · rw [ek] at q
    exact Wp.r rfl trivial (h.no (eD 1 (cFm_1 q) (by decide)) rfl (by decide))
  · rw [ek] at q q2
    exact Wp.r rfl trivial (h.no (eD 2 (cFm_2 q q2) (by decide)) rfl (by decide))
  · rw [ek] at q q2
    exact Wp.r rfl trivial (h.no (eD 3 (cFm_3 q q2 q3) (by decide)) rfl (by decide))
  · rw [ek] at q q2
    have e9 := (wf_ix hW hr q q3 q4).2.2
    refine Wp.r rfl trivial (h.go (m := stN (cV S) (tn a) (S.2.2 103 (tn (S.2.2 143 (tn b) * 20 + S.2.2 144 (tn c))))) ?_ (Fr.rf.a (by decide)) rfl rfl rfl rfl)
    rw [e9]
    exact ite_yes (cFm_0 q q2 q3 q4)
theorem p_15 (hW : WFk k0 (cV S)) (hw : wS 15 a b c) (h : PQ S 15 a b c Q) : Ev (d + 4) n_X1_perform [.ref 1, .int 15, .int a, .int b, .int c] S Q := by
  have ha := hw.2.1.1 rfl
  have hb := hw.2.2.1.2.1 rfl
  have hc := hw.2.2.2.2.1 rfl
  have hr := wf_v hW ha
  have ek := wf_k hW hr
  have eD : ∀ x, cFm (cV S) (S.2.2 143 (tn a)) 32 (S.2.2 144 (tn b)) = x → ¬ x = 0 → doS (cV S) 15 a b c = (x, cV S) := fun x e hx => ite_no e hx
  refine Wp.p rfl ?_
  refine Wp.p (pc' := 265) rfl ?_
  repeat refine Wp.p rfl ?_
  refine Wp.g rfl (inV ha) ?_
  repeat refine Wp.p rfl ?_
  refine Wp.g rfl (inN hb) ?_
  repeat refine Wp.p rfl ?_
  refine Wp.g rfl (inN hc) ?_
  refine Wp.i rfl (s_M_setInt (r := S.2.2 143 (tn a)) (x := S.2.2 144 (tn b)) (y := S.2.2 144 (tn c)) (wf_m hW) (wf_r hW hr) (wf_c hW hr) (fun q => ?_) (fun q q2 => ?_) (fun q q2 q3 => ?_) (fun q q2 q3 q4 => ?_))
  · rw [ek] at q
    exact Wp.r rfl trivial (h.no (eD 1 (cFm_1 q) (by decide)) rfl (by decide))
  · rw [ek] at q q2
    exact Wp.r rfl trivial (h.no (eD 2 (cFm_2 q q2) (by decide)) rfl (by decide))
  · rw [ek] at q q2
    exact Wp.r rfl trivial (h.no (eD 3 (cFm_3 q q2 q3) (by decide)) rfl (by decide))
  · rw [ek] at q q2
    have e9 := (wf_ix hW hr q q3 q4).2.2
    refine Wp.r rfl trivial (h.go (m := stC (cV S) (tn (S.2.2 143 (tn a) * 20 + S.2.2 144 (tn b))) (S.2.2 144 (tn c))) ?_ (Fr.rf.a (by decide)) rfl rfl rfl rfl)
    rw [e9]
    exact ite_yes (cFm_0 q q2 q3 q4)
theorem p_18 (hw : wS 18 a b c) (h : PQ S 18 a b c Q) : Ev (d + 4) n_X1_perform [.ref 1, .int 18, .int a, .int b, .int c] S Q := by
  have ha := hw.2.1.2.1 rfl
  have hb := hw.2.2.1.2.1 rfl
  refine Wp.p rfl ?_
  refine Wp.p (pc' := 289) rfl ?_
  repeat refine Wp.p rfl ?_
  refine Wp.g rfl (inN hb) ?_
  refine Wp.i rfl (s_M_divide (y := S.2.2 144 (tn b)) (inN ha) (fun q => ?_) (fun q => ?_))
  · exact Wp.r rfl trivial (h.no (if_pos q) rfl (by decide))
  · exact Wp.r rfl trivial (h.go (if_neg q) (Fr.rf.a (by decide)) rfl rfl rfl rfl)
theorem p_22 (hW : WFk k0 (cV S)) (hw : wS 22 a b c) (h : PQ S 22 a b c Q) : Ev (d + 4) n_X1_perform [.ref 1, .int 22, .int a, .int b, .int c] S Q := by
  have ha := hw.2.1.1 rfl
  have hb := hw.2.2.1.1 rfl
  have hc := hw.2.2.2.2.1 rfl
  refine Wp.p rfl ?_
  refine Wp.p (pc' := 304) rfl ?_
  repeat refine Wp.p rfl ?_
  refine Wp.g rfl (inV ha) ?_
  repeat refine Wp.p rfl ?_
  refine Wp.g rfl (inV hb) ?_
  repeat refine Wp.p rfl ?_
  refine Wp.g rfl (inN hc) ?_
  repeat refine Wp.p rfl ?_
  refine Wp.g rfl (show vp_in 3 4 by unfold vp_in; decide) ?_
  refine Wp.i rfl (s_M_move (f := S.2.2 143 (tn a)) (t := S.2.2 143 (tn b)) (st := S.2.2 144 (tn c)) (n := S.2.2 144 3) hW (wf_v hW ha) (wf_v hW hb) (fun S' hF e => ?_))
  exact Wp.r rfl trivial (h S' (hF.up (by decide) (by decide)) e (hF.1 45 (by decide)) (hF.1 48 (by decide)) (hF.1 49 (by decide)))
/-- Machine.perform does what the step does -/
theorem s_perform {k : Nat} (hW : WFk k0 (cV S)) (hw : wS k a b c) (h : PQ S k a b c Q) : Ev (d + 4) n_X1_perform [.ref 1, .int (nI k), .int a, .int b, .int c] S Q := by
  have hk := hw.1
  match k, hk with
  | 0, _ => exact p_0 hw h
  | 1, _ => exact p_1 hW hw h
  | 2, _ => exact p_2 hW hw h
  | 3, _ => exact p_3 hw h
  | 4, _ => exact p_4 hW hw h
  | 5, _ => exact p_5 hw h
  | 6, _ => exact p_6 hW hw h
  | 7, _ => exact p_7 hW hw h
  | 8, _ => exact p_8 hW hw h
  | 9, _ => exact p_9 hW hw h
  | 10, _ => exact p_10 hW hw h
  | 11, _ => exact p_11 hW hw h
  | 12, _ => exact p_12 hW hw h
  | 13, _ => exact p_13 hW hw h
  | 14, _ => exact p_14 hW hw h
  | 15, _ => exact p_15 hW hw h
  | 16, _ => exact p_16 hw h
  | 17, _ => exact p_17 hw h
  | 18, _ => exact p_18 hw h
  | 19, _ => exact p_19 hw h
  | 20, _ => exact p_20 h
  | 21, _ => exact p_21 h
  | 22, _ => exact p_22 hW hw h
  | 23, _ => exact p_23 hw h
  | n + 24, hk => exact absurd hk (by omega)
end PF
