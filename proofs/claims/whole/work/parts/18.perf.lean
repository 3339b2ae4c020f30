def PQ (S : mS) (k : Nat) (a b c : Int32) (Q : mQ) : Prop := ∀ S', Fr [5, 45, 48, 49] [143, 144, 100, 101, 102, 103, 104] S S' → cV S' = (doS (cV S) k a b c).2 → S'.1 45 = nxS (cV S) k a b c (S.1 45) → S'.1 48 = (if k = 23 then 0 else S.1 48) → S'.1 49 = (if k = 23 then gN (cV S) (tn a) else S.1 49) → Q (some (.int (doS (cV S) k a b c).1)) S'
theorem PQ.no {S : mS} {k : Nat} {a b c x : Int32} {Q : mQ} (h : PQ S k a b c Q) (e : doS (cV S) k a b c = (x, cV S)) (hn : nxS (cV S) k a b c (S.1 45) = S.1 45) (hk : k ≠ 23) : Q (some (.int x)) S := by
  have := h S Fr.rf (by rw [e]) hn.symm (by rw [if_neg hk]) (by rw [if_neg hk])
  rw [e] at this
  exact this
theorem PQ.go {S S' : mS} {k : Nat} {a b c x : Int32} {m : mM} {Q : mQ} (h : PQ S k a b c Q) (e : doS (cV S) k a b c = (x, m)) (hF : Fr [5, 45, 48, 49] [143, 144, 100, 101, 102, 103, 104] S S') (hm : cV S' = m) (hn : S'.1 45 = nxS (cV S) k a b c (S.1 45)) (hs : S'.1 48 = (if k = 23 then 0 else S.1 48)) (he : S'.1 49 = (if k = 23 then gN (cV S) (tn a) else S.1 49)) : Q (some (.int x)) S' := by
  have := h S' hF (by rw [e]; exact hm) hn hs he
  rw [e] at this
  exact this
theorem inV {a : Int32} (h : 0 ≤ a ∧ a < 6) : vp_in a 6 := vp_in_of2 h.1 h.2 (by decide)
theorem inN {a : Int32} (h : 0 ≤ a ∧ a < 4) : vp_in a 4 := vp_in_of2 h.1 h.2 (by decide)
theorem inT {a : Int32} (h : 0 ≤ a ∧ a < 11) : vp_in a 11 := vp_in_of2 h.1 h.2 (by decide)
theorem inVt {a : Int32} (h : 0 ≤ a ∧ a < 6) : tn a < 6 := Nat.not_le.mp fun q => inV h (Or.inr q)
theorem inNt {a : Int32} (h : 0 ≤ a ∧ a < 4) : tn a < 4 := Nat.not_le.mp fun q => inN h (Or.inr q)
section PF
variable {d k0 : Nat} {S : mS} {Q : mQ} {a b c : Int32}
theorem p_0 (hw : wS 0 a b c) (h : PQ S 0 a b c Q) : Ev (d + 4) n_X1_perform [.ref 1, .int 0, .int a, .int b, .int c] S Q := by
  have ha := inV (hw.2.1.1 rfl)
  refine Wp.p rfl ?_
  refine Wp.p (pc' := 334) rfl ?_
  repeat refine Wp.p rfl ?_
  refine Wp.i rfl ?_
  refine Wp.p rfl ?_
  refine Wp.p (pc' := 112) rfl ?_
  repeat refine Wp.p rfl ?_
  refine Wp.g rfl ha ?_
  repeat refine Wp.p rfl ?_
  refine Wp.r rfl trivial ?_
  repeat refine Wp.p rfl ?_
  exact Wp.r rfl trivial (h _ (Fr.rf.a (by decide)) rfl rfl rfl rfl)
theorem p_3 (hw : wS 3 a b c) (h : PQ S 3 a b c Q) : Ev (d + 4) n_X1_perform [.ref 1, .int 3, .int a, .int b, .int c] S Q := by
  have ha := inV (hw.2.1.1 rfl)
  have hb := inV (hw.2.2.1.1 rfl)
  refine Wp.p rfl ?_
  refine Wp.p (pc' := 334) rfl ?_
  repeat refine Wp.p rfl ?_
  refine Wp.i rfl ?_
  refine Wp.p rfl ?_
  refine Wp.p (pc' := 122) rfl ?_
  repeat refine Wp.p rfl ?_
  refine Wp.g rfl hb ?_
  refine Wp.g rfl ha ?_
  repeat refine Wp.p rfl ?_
  refine Wp.r rfl trivial ?_
  repeat refine Wp.p rfl ?_
  exact Wp.r rfl trivial (h _ (Fr.rf.a (by decide)) rfl rfl rfl rfl)
theorem p_4 (hW : WFk k0 (cV S)) (hw : wS 4 a b c) (h : PQ S 4 a b c Q) : Ev (d + 4) n_X1_perform [.ref 1, .int 4, .int a, .int b, .int c] S Q := by
  obtain ⟨hk, h5, hV, hO⟩ := hW
  have ha := inV (hw.2.1.1 rfl)
  have hb := inT (hw.2.2.1.2.2.2.2.1 rfl)
  have hm : (S.1 5).toInt ≤ 40 := by rw [show S.1 5 = nI k0 from h5, nI_toInt (by omega)]; omega
  have ek := kOf_kd (r := S.2.2 143 (tn a)) h5 hk (Or.inl (hV _ (inVt (hw.2.1.1 rfl))))
  refine Wp.p rfl ?_
  refine Wp.p (pc' := 334) rfl ?_
  repeat refine Wp.p rfl ?_
  refine Wp.i rfl ?_
  refine Wp.p rfl ?_
  refine Wp.p (pc' := 137) rfl ?_
  repeat refine Wp.p rfl ?_
  refine Wp.g rfl hb ?_
  repeat refine Wp.p rfl ?_
  refine Wp.g rfl ha ?_
  refine Wp.i rfl (s_H_kindOf hm ?_)
  refine Wp.i rfl (s_holds (fun (q : hB (m_sv 500 (tn b)) (kOf S (S.2.2 143 (tn a)))) => ?_) (fun (q : ¬ hB (m_sv 500 (tn b)) (kOf S (S.2.2 143 (tn a)))) => ?_))
  · rw [ek] at q
    repeat refine Wp.p rfl ?_
    refine Wp.i rfl (s_M_jumpIf (fun _ => ?_) (fun (e : (1 : Int32) = 0) => absurd e (by decide)))
    repeat refine Wp.p rfl ?_
    refine Wp.r rfl trivial ?_
    repeat refine Wp.p rfl ?_
    exact Wp.r rfl trivial (h _ (Fr.rf.f (by decide)) rfl (show c = nxS (cV S) 4 a b c (S.1 45) from (if_pos q).symm) rfl rfl)
  · rw [ek] at q
    repeat refine Wp.p rfl ?_
    refine Wp.i rfl (s_M_jumpIf (fun (e : ¬ (0 : Int32) = 0) => absurd rfl e) (fun _ => ?_))
    repeat refine Wp.p rfl ?_
    refine Wp.r rfl trivial ?_
    repeat refine Wp.p rfl ?_
    exact Wp.r rfl trivial (h.no rfl (show nxS (cV S) 4 a b c (S.1 45) = S.1 45 from if_neg q) (by decide))
theorem p_5 (hw : wS 5 a b c) (h : PQ S 5 a b c Q) : Ev (d + 4) n_X1_perform [.ref 1, .int 5, .int a, .int b, .int c] S Q := by
  have ha := inV (hw.2.1.1 rfl)
  refine Wp.p rfl ?_
  refine Wp.p (pc' := 334) rfl ?_
  repeat refine Wp.p rfl ?_
  refine Wp.i rfl ?_
  refine Wp.p rfl ?_
  refine Wp.p (pc' := 167) rfl ?_
  repeat refine Wp.p rfl ?_
  refine Wp.g rfl ha ?_
  repeat refine Wp.p rfl ?_
  refine Wp.b rfl (fun (q : ¬ S.2.2 143 (tn a) = -1) => ?_) (fun (q : ¬ ¬ S.2.2 143 (tn a) = -1) => ?_)
  · repeat refine Wp.p rfl ?_
    refine Wp.i rfl (s_M_jumpIf (fun (e : ¬ (0 : Int32) = 0) => absurd rfl e) (fun _ => ?_))
    repeat refine Wp.p rfl ?_
    refine Wp.r rfl trivial ?_
    repeat refine Wp.p rfl ?_
    exact Wp.r rfl trivial (h.no rfl (show nxS (cV S) 5 a b c (S.1 45) = S.1 45 from if_neg q) (by decide))
  · repeat refine Wp.p rfl ?_
    refine Wp.i rfl (s_M_jumpIf (fun _ => ?_) (fun (e : (1 : Int32) = 0) => absurd e (by decide)))
    repeat refine Wp.p rfl ?_
    refine Wp.r rfl trivial ?_
    repeat refine Wp.p rfl ?_
    exact Wp.r rfl trivial (h _ (Fr.rf.f (by decide)) rfl (show c = nxS (cV S) 5 a b c (S.1 45) from (if_pos (Decidable.not_not.mp q)).symm) rfl rfl)
theorem p_16 (hw : wS 16 a b c) (h : PQ S 16 a b c Q) : Ev (d + 4) n_X1_perform [.ref 1, .int 16, .int a, .int b, .int c] S Q := by
  have ha := inN (hw.2.1.2.1 rfl)
  refine Wp.p rfl ?_
  refine Wp.p (pc' := 334) rfl ?_
  repeat refine Wp.p rfl ?_
  refine Wp.i rfl ?_
  refine Wp.p rfl ?_
  refine Wp.p (pc' := 191) rfl ?_
  repeat refine Wp.p rfl ?_
  refine Wp.g rfl ha ?_
  repeat refine Wp.p rfl ?_
  refine Wp.r rfl trivial ?_
  repeat refine Wp.p rfl ?_
  exact Wp.r rfl trivial (h _ (Fr.rf.a (by decide)) rfl rfl rfl rfl)
theorem p_17 (hw : wS 17 a b c) (h : PQ S 17 a b c Q) : Ev (d + 4) n_X1_perform [.ref 1, .int 17, .int a, .int b, .int c] S Q := by
  have ha := inN (hw.2.1.2.1 rfl)
  have hb := inN (hw.2.2.1.2.1 rfl)
  refine Wp.p rfl ?_
  refine Wp.p (pc' := 334) rfl ?_
  repeat refine Wp.p rfl ?_
  refine Wp.i rfl ?_
  refine Wp.p rfl ?_
  refine Wp.p (pc' := 201) rfl ?_
  repeat refine Wp.p rfl ?_
  refine Wp.g rfl ha ?_
  repeat refine Wp.p rfl ?_
  refine Wp.g rfl hb ?_
  repeat refine Wp.p rfl ?_
  refine Wp.g rfl ha ?_
  repeat refine Wp.p rfl ?_
  refine Wp.r rfl trivial ?_
  repeat refine Wp.p rfl ?_
  exact Wp.r rfl trivial (h _ (Fr.rf.a (by decide)) rfl rfl rfl rfl)
theorem p_19 (hw : wS 19 a b c) (h : PQ S 19 a b c Q) : Ev (d + 4) n_X1_perform [.ref 1, .int 19, .int a, .int b, .int c] S Q := by
  have ha := inN (hw.2.1.2.1 rfl)
  have hb := inN (hw.2.2.1.2.1 rfl)
  refine Wp.p rfl ?_
  refine Wp.p (pc' := 334) rfl ?_
  repeat refine Wp.p rfl ?_
  refine Wp.i rfl ?_
  refine Wp.p rfl ?_
  refine Wp.p (pc' := 219) rfl ?_
  repeat refine Wp.p rfl ?_
  refine Wp.g rfl ha ?_
  repeat refine Wp.p rfl ?_
  refine Wp.g rfl hb ?_
  refine Wp.b rfl (fun (q : S.2.2 144 (tn b) ≤ S.2.2 144 (tn a)) => ?_) (fun (q : ¬ S.2.2 144 (tn b) ≤ S.2.2 144 (tn a)) => ?_)
  · repeat refine Wp.p rfl ?_
    refine Wp.i rfl (s_M_jumpIf (fun (e : ¬ (0 : Int32) = 0) => absurd rfl e) (fun _ => ?_))
    repeat refine Wp.p rfl ?_
    refine Wp.r rfl trivial ?_
    repeat refine Wp.p rfl ?_
    exact Wp.r rfl trivial (h.no rfl (show nxS (cV S) 19 a b c (S.1 45) = S.1 45 from if_neg (Int32.not_lt.mpr q)) (by decide))
  · repeat refine Wp.p rfl ?_
    refine Wp.i rfl (s_M_jumpIf (fun _ => ?_) (fun (e : (1 : Int32) = 0) => absurd e (by decide)))
    repeat refine Wp.p rfl ?_
    refine Wp.r rfl trivial ?_
    repeat refine Wp.p rfl ?_
    exact Wp.r rfl trivial (h _ (Fr.rf.f (by decide)) rfl (show c = nxS (cV S) 19 a b c (S.1 45) from (if_pos (Int32.not_le.mp q)).symm) rfl rfl)
theorem p_20 (h : PQ S 20 a b c Q) : Ev (d + 4) n_X1_perform [.ref 1, .int 20, .int a, .int b, .int c] S Q := by
  refine Wp.p rfl ?_
  refine Wp.p (pc' := 334) rfl ?_
  repeat refine Wp.p rfl ?_
  refine Wp.i rfl ?_
  refine Wp.p rfl ?_
  refine Wp.p (pc' := 248) rfl ?_
  repeat refine Wp.p rfl ?_
  refine Wp.r rfl trivial ?_
  repeat refine Wp.p rfl ?_
  exact Wp.r rfl trivial (h _ (Fr.rf.f (by decide)) rfl rfl rfl rfl)
theorem p_23 (hw : wS 23 a b c) (h : PQ S 23 a b c Q) : Ev (d + 4) n_X1_perform [.ref 1, .int 23, .int a, .int b, .int c] S Q := by
  have ha := inN (hw.2.1.2.1 rfl)
  refine Wp.p rfl ?_
  refine Wp.p (pc' := 334) rfl ?_
  repeat refine Wp.p rfl ?_
  refine Wp.i rfl ?_
  refine Wp.p rfl ?_
  refine Wp.p (pc' := 256) rfl ?_
  repeat refine Wp.p rfl ?_
  refine Wp.g rfl ha ?_
  repeat refine Wp.p rfl ?_
  refine Wp.r rfl trivial ?_
  repeat refine Wp.p rfl ?_
  exact Wp.r rfl trivial (h _ ((Fr.rf.f (by decide)).f (by decide)) rfl rfl rfl rfl)
theorem p_21 (h : PQ S 21 a b c Q) : Ev (d + 4) n_X1_perform [.ref 1, .int 21, .int a, .int b, .int c] S Q := by
  refine Wp.p rfl ?_
  refine Wp.p (pc' := 301) rfl ?_
  repeat refine Wp.p rfl ?_
  exact Wp.r rfl trivial (h.no rfl rfl (by decide))
end PF
