theorem afM {S : mS} {r : Nat → Int32} {i : Nat} {x : Int32} (hr : ∀ v, v < 6 → S.2.2 370 v = r v) : ∀ v, v < 6 → (sA S 370 i x).2.2 370 v = upd r i x v := fun v hv => by
  rw [sA_at]
  by_cases e : v = i
  · rw [e, upd_at, upd_at]
  · rw [upd_ne e, upd_ne e]
    exact hr v hv
theorem mSame.T {S S' : mS} (h : mSame S S') {s : Nat} (hs : s < 32) : tR (mO S') s = tR (mO S) s ∧ tA (mO S') = tA (mO S) := by
  refine ⟨funext (fun v => ?_), funext (fun w => ?_)⟩
  · unfold tR
    split
    · next c => exact h.1 _ (by omega)
    · rfl
  · unfold tA
    split
    · next c => exact h.2.1 w c
    · rfl
/-- what going on has to bring -/
def mGo (P : oP) (s : Nat) (S S' : mS) : Prop := Gm S S' ∧ MI P S' ∧ (S'.1 269 = 0 → (∀ e ∈ oEg P (mO S') s, e.1 < nI P.1 → (∀ v, v < 6 → ¬ e.2 v = 0) → oIn (mO S') (tn e.1) e.2) ∧ ∀ p ∈ oAd P (mO S') s, le p.2 (S'.2.2 368 p.1))
theorem s_m_goEnd {s : Nat} {S S2 : mS} {P : oP} (hs : s < P.1) (g2 : Gm S S2) (c2 : MI P S2) (hE : ∀ e ∈ oEg P (mO S) s, e.1 < nI P.1 → (∀ v, v < 6 → ¬ e.2 v = 0) → oIn (mO S2) (tn e.1) e.2) (hA : S2.1 269 = 0 → ∀ p ∈ oAd P (mO S) s, le p.2 (S2.2.2 368 p.1)) : mGo P s S S2 := by
  have hn := c2.1.1.1
  refine ⟨g2, c2, fun z => ?_⟩
  obtain ⟨r1, r2⟩ := (g2.2.2.1 z).2.T (s := s) (by omega)
  have eg : oEg P (mO S2) s = oEg P (mO S) s := by unfold oEg; rw [r1, r2]
  have ea : oAd P (mO S2) s = oAd P (mO S) s := by unfold oAd; rw [r1, r2]
  rw [eg, ea]
  exact ⟨hE, hA z⟩
theorem s_m_go813 {d s : Nat} {S S2 : mS} {Q : mQ} {P : oP} {t : Nat → Int32} (hc : MI P S) (hs : s < P.1) (hr : (mO S).2.2 s = true) (g2 : Gm S S2) (c2 : MI P S2) (ht : ∀ v, v < 6 → S2.2.2 370 v = t v) (hm : (nI (s + 1), t) ∈ oEg P (mO S) s) (hE : ∀ e ∈ oEg P (mO S) s, e = (nI (s + 1), t) ∨ (e.1 < nI P.1 → (∀ v, v < 6 → ¬ e.2 v = 0) → oIn (mO S2) (tn e.1) e.2)) (hA : S2.1 269 = 0 → ∀ p ∈ oAd P (mO S) s, le p.2 (S2.2.2 368 p.1)) (h : ∀ S', mGo P s S S' → Q none S') : Wp (d + 2) n_X6_goOn 813 [(0, .ref 6), (1, .int (nI s))] [] S2 Q := by
  have hP := hc.1.1
  have hn := hP.1
  iterate 4 refine Wp.p rfl ?_
  refine (?_ : Wp (d + 2) n_X6_goOn 817 [(0, .ref 6), (1, .int (nI s))] [.int (nI s + 1), .ref 6] S2 Q)
  rw [nI_1]
  refine Wp.i rfl (s_m_comes c2 ht (nI_pos' (by omega)) (fun b nz => hc.2.1.e hn hs hr (e := (nI (s + 1), t)) hm b nz) (fun S3 g3 c3 _ i3 => ?_))
  refine Wp.r rfl trivial (h S3 (s_m_goEnd hs (g2.tr g3) c3 (fun e he b nz => ?_) (fun z p hp => ?_)))
  · rcases hE e he with rfl | y
    · exact i3 b nz
    · exact (y b nz).up g3.2.1 (Nat.lt_of_lt_of_le (oEg_tg hP hs e he b).2 hn)
  · have := g3.2.2.1 z
    rw [this.2.2.1 _ (oAd_tg p hp)]
    exact hA this.1 p hp
theorem kB_st {r : Nat → Int32} {a b : Nat} {x y : Int32} (h : ¬ b = a) : upd (upd r a (r a &&& x)) b (r b &&& y) = kB r a x b y := by
  unfold kB
  rw [upd_ne h]
theorem kB_se {r : Nat → Int32} {a : Nat} {x y : Int32} : upd (upd r a (r a &&& x)) a ((r a &&& x) &&& (r a &&& y)) = kB r a x a y := by
  unfold kB
  rw [upd_at]
  congr 1
  refine hb_ext (fun k _ => ?_)
  rw [hb_and, hb_and, hb_and, hb_and, hb_and]
  cases hb (r a) k <;> cases hb x k <;> cases hb y k <;> rfl
theorem TK_eq {x y : Int32} : (if sh y 31 then x &&& 128 else 0) ||| (if sh y 25 then x &&& 256 else 0) = x &&& TK y := by
  unfold TK
  by_cases c1 : sh y 31 <;> by_cases c2 : sh y 25 <;> (first | rw [if_pos c1, if_pos c1] | rw [if_neg c1, if_neg c1]) <;> (first | rw [if_pos c2, if_pos c2] | rw [if_neg c2, if_neg c2]) <;> refine hb_ext (fun k _ => ?_) <;> simp only [hb_or, hb_and, hb_0] <;> cases hb x k <;> cases hb 128 k <;> cases hb 256 k <;> rfl
theorem KT_eq {x y : Int32} : (if sh x 128 then y &&& 31 else 0) ||| (if sh x 256 then y &&& 25 else 0) = y &&& KT x := by
  unfold KT
  by_cases c1 : sh x 128 <;> by_cases c2 : sh x 256 <;> (first | rw [if_pos c1, if_pos c1] | rw [if_neg c1, if_neg c1]) <;> (first | rw [if_pos c2, if_pos c2] | rw [if_neg c2, if_neg c2]) <;> refine hb_ext (fun k _ => ?_) <;> simp only [hb_or, hb_and, hb_0] <;> cases hb y k <;> cases hb 31 k <;> cases hb 25 k <;> rfl

theorem ba22 {s : Nat} {S2 : mS} {P : oP} {x y : Int32} (c2 : MI P S2) (hs : s < P.1) (hr : (mO S2).2.2 s = true) (hk22 : tn (P.2.1 s) = 22) (ex : S2.2.2 366 (6 * s + tn (P.2.2.1 s)) = x) (ey : S2.2.2 366 (6 * s + tn (P.2.2.2.1 s)) = y) (la : tn (P.2.2.1 s) < 6) (lb : tn (P.2.2.2.1 s) < 6) (h1 : sh x 256) (h2 : sh y 128) : BA P 1 (S2.2.2 368 2) := by
  have hP := c2.1.1
  have hn := hP.1
  have l2' : le (S2.2.2 368 2) 25 := (c2.2.1.rg hP).2.2.2
  have e31 : S2.2.2 368 2 = S2.2.2 368 2 &&& 31 := (le_and.mp (l2'.tr (le_c (by decide)))).symm
  have e2 : oAd P (mO S2) s = [(2, if sh (tR (mO S2) s (tn (P.2.2.1 s))) 128 ∧ sh (tR (mO S2) s (tn (P.2.2.2.1 s))) 256 then S2.2.2 368 1 &&& 25 else 0), (1, if sh (tR (mO S2) s (tn (P.2.2.1 s))) 256 ∧ sh (tR (mO S2) s (tn (P.2.2.2.1 s))) 128 then S2.2.2 368 2 &&& 31 else 0)] := by
    unfold oAd
    rw [hk22]
    rfl
  have e3 : (if sh (tR (mO S2) s (tn (P.2.2.1 s))) 256 ∧ sh (tR (mO S2) s (tn (P.2.2.2.1 s))) 128 then S2.2.2 368 2 &&& 31 else 0) = S2.2.2 368 2 := by
    rw [← rwM_tR _ la, ← rwM_tR _ lb, ex, ey, if_pos ⟨h1, h2⟩]
    exact e31.symm
  rw [e3] at e2
  exact c2.2.1.a hn hs hr (p := (1, S2.2.2 368 2)) (by rw [e2]; exact List.mem_cons_of_mem _ (List.mem_singleton.mpr rfl))
theorem s_m_goOn_k0 {d s : Nat} {S : mS} {Q : mQ} {P : oP} {al r : Nat → Int32} {a b c : Int32} (hw : wS 0 a b c) (hc : MI P S) (hs : s < P.1) (hr : (mO S).2.2 s = true) (hrow : ∀ v, v < 6 → S.2.2 370 v = r v) (hal : ∀ w, w < 3 → al w = S.2.2 368 w) (eE : oEg P (mO S) s = egF 0 (nI (s + 1)) a b c al r) (eA : oAd P (mO S) s = adS 0 a b al r) (l2 : le (S.2.2 368 2) 25) (h : ∀ S', mGo P s S S' → Q none S') : Wp (d + 2) n_X6_goOn 93 [(6, .int (xB 0 r b)), (5, .int (xA 0 r a)), (4, .int c), (3, .int b), (2, .int a), (0, .ref 6), (1, .int (nI s))] [.int (nI 0)] S Q := by
  have hP := hc.1.1
  have hn := hP.1
  iterate 5 refine Wp.p rfl ?_
  refine Wp.g rfl (in_of (n := 6) (hw.2.1.1 rfl) (by decide)) ?_
  iterate 1 refine Wp.p rfl ?_
  exact (s_m_go813 hc hs hr (Gm.af (Fr.rf.a (by decide))) (hc.af (Fr.rf.a (by decide))) (afM hrow) (by rw [eE]; exact List.mem_singleton.mpr rfl) (fun e he => Or.inl (by rw [eE] at he; exact List.mem_singleton.mp he)) (fun _ p hp => absurd (show p ∈ [] by rw [eA] at hp; exact hp) List.not_mem_nil) h).sub (lS.mk rfl rfl (by repeat (first | exact lSub.nil | refine lSub.cons rfl ?_)))
theorem s_m_goOn_k1 {d s : Nat} {S : mS} {Q : mQ} {P : oP} {al r : Nat → Int32} {a b c : Int32} (hw : wS 1 a b c) (hc : MI P S) (hs : s < P.1) (hr : (mO S).2.2 s = true) (hrow : ∀ v, v < 6 → S.2.2 370 v = r v) (hal : ∀ w, w < 3 → al w = S.2.2 368 w) (eE : oEg P (mO S) s = egF 1 (nI (s + 1)) a b c al r) (eA : oAd P (mO S) s = adS 1 a b al r) (l2 : le (S.2.2 368 2) 25) (h : ∀ S', mGo P s S S' → Q none S') : Wp (d + 2) n_X6_goOn 93 [(6, .int (xB 1 r b)), (5, .int (xA 1 r a)), (4, .int c), (3, .int b), (2, .int a), (0, .ref 6), (1, .int (nI s))] [.int (nI 1)] S Q := by
  have hP := hc.1.1
  have hn := hP.1
  iterate 7 refine Wp.p rfl ?_
  refine Wp.g rfl (in_of (n := 6) (hw.2.1.1 rfl) (by decide)) ?_
  iterate 1 refine Wp.p rfl ?_
  exact (s_m_go813 hc hs hr (Gm.af (Fr.rf.a (by decide))) (hc.af (Fr.rf.a (by decide))) (afM hrow) (by rw [eE]; exact List.mem_singleton.mpr rfl) (fun e he => Or.inl (by rw [eE] at he; exact List.mem_singleton.mp he)) (fun _ p hp => absurd (show p ∈ [] by rw [eA] at hp; exact hp) List.not_mem_nil) h).sub (lS.mk rfl rfl (by repeat (first | exact lSub.nil | refine lSub.cons rfl ?_)))
theorem s_m_goOn_k2 {d s : Nat} {S : mS} {Q : mQ} {P : oP} {al r : Nat → Int32} {a b c : Int32} (hw : wS 2 a b c) (hc : MI P S) (hs : s < P.1) (hr : (mO S).2.2 s = true) (hrow : ∀ v, v < 6 → S.2.2 370 v = r v) (hal : ∀ w, w < 3 → al w = S.2.2 368 w) (eE : oEg P (mO S) s = egF 2 (nI (s + 1)) a b c al r) (eA : oAd P (mO S) s = adS 2 a b al r) (l2 : le (S.2.2 368 2) 25) (h : ∀ S', mGo P s S S' → Q none S') : Wp (d + 2) n_X6_goOn 93 [(6, .int (xB 2 r b)), (5, .int (xA 2 r a)), (4, .int c), (3, .int b), (2, .int a), (0, .ref 6), (1, .int (nI s))] [.int (nI 2)] S Q := by
  have hP := hc.1.1
  have hn := hP.1
  iterate 7 refine Wp.p rfl ?_
  refine Wp.g rfl (in_of (n := 6) (hw.2.1.1 rfl) (by decide)) ?_
  iterate 1 refine Wp.p rfl ?_
  exact (s_m_go813 hc hs hr (Gm.af (Fr.rf.a (by decide))) (hc.af (Fr.rf.a (by decide))) (afM hrow) (by rw [eE]; exact List.mem_singleton.mpr rfl) (fun e he => Or.inl (by rw [eE] at he; exact List.mem_singleton.mp he)) (fun _ p hp => absurd (show p ∈ [] by rw [eA] at hp; exact hp) List.not_mem_nil) h).sub (lS.mk rfl rfl (by repeat (first | exact lSub.nil | refine lSub.cons rfl ?_)))
theorem s_m_goOn_k3 {d s : Nat} {S : mS} {Q : mQ} {P : oP} {al r : Nat → Int32} {a b c : Int32} (hw : wS 3 a b c) (hc : MI P S) (hs : s < P.1) (hr : (mO S).2.2 s = true) (hrow : ∀ v, v < 6 → S.2.2 370 v = r v) (hal : ∀ w, w < 3 → al w = S.2.2 368 w) (eE : oEg P (mO S) s = egF 3 (nI (s + 1)) a b c al r) (eA : oAd P (mO S) s = adS 3 a b al r) (l2 : le (S.2.2 368 2) 25) (h : ∀ S', mGo P s S S' → Q none S') : Wp (d + 2) n_X6_goOn 93 [(6, .int (xB 3 r b)), (5, .int (xA 3 r a)), (4, .int c), (3, .int b), (2, .int a), (0, .ref 6), (1, .int (nI s))] [.int (nI 3)] S Q := by
  have hP := hc.1.1
  have hn := hP.1
  iterate 5 refine Wp.p rfl ?_
  refine Wp.g rfl (in_of (n := 6) (hw.2.1.1 rfl) (by decide)) ?_
  iterate 1 refine Wp.p rfl ?_
  exact (s_m_go813 hc hs hr (Gm.af (Fr.rf.a (by decide))) (hc.af (Fr.rf.a (by decide))) (afM hrow) (by rw [eE]; exact List.mem_singleton.mpr rfl) (fun e he => Or.inl (by rw [eE] at he; exact List.mem_singleton.mp he)) (fun _ p hp => absurd (show p ∈ [] by rw [eA] at hp; exact hp) List.not_mem_nil) h).sub (lS.mk rfl rfl (by repeat (first | exact lSub.nil | refine lSub.cons rfl ?_)))
theorem s_m_goOn_k4 {d s : Nat} {S : mS} {Q : mQ} {P : oP} {al r : Nat → Int32} {a b c : Int32} (hw : wS 4 a b c) (hc : MI P S) (hs : s < P.1) (hr : (mO S).2.2 s = true) (hrow : ∀ v, v < 6 → S.2.2 370 v = r v) (hal : ∀ w, w < 3 → al w = S.2.2 368 w) (eE : oEg P (mO S) s = egF 4 (nI (s + 1)) a b c al r) (eA : oAd P (mO S) s = adS 4 a b al r) (l2 : le (S.2.2 368 2) 25) (h : ∀ S', mGo P s S S' → Q none S') : Wp (d + 2) n_X6_goOn 93 [(6, .int (xB 4 r b)), (5, .int (xA 4 r a)), (4, .int c), (3, .int b), (2, .int a), (0, .ref 6), (1, .int (nI s))] [.int (nI 4)] S Q := by
  have hP := hc.1.1
  have hn := hP.1
  iterate 6 refine Wp.p rfl ?_
  refine Wp.i rfl (s_m_bitsOf (in_of (n := 11) (hw.2.2.1.2.2.2.2.1 rfl) (by decide)) ?_)
  iterate 1 refine Wp.p rfl ?_
  refine Wp.g rfl (in_of (n := 6) (hw.2.1.1 rfl) (by decide)) ?_
  have g1 : Gm S (sA S 370 (tn a) (r (tn a) &&& m_sv 500 (tn b))) := Gm.af (Fr.rf.a (by decide))
  have c1 : MI P (sA S 370 (tn a) (r (tn a) &&& m_sv 500 (tn b))) := hc.af (Fr.rf.a (by decide))
  iterate 2 refine Wp.p rfl ?_
  refine Wp.i rfl (s_m_comes (t := upd r (tn a) (r (tn a) &&& m_sv 500 (tn b))) c1 (afM hrow) (hw.2.2.2.2.2.2.2.2 rfl).1 (fun b' nz => hc.2.1.e hn hs hr (e := (c, upd r (tn a) (r (tn a) &&& m_sv 500 (tn b)))) (by rw [eE]; exact List.mem_cons_self) b' nz) (fun S2 g2 c2 a2 i2 => ?_))
  iterate 5 refine Wp.p rfl ?_
  refine Wp.i rfl (s_m_bitsOf (in_of (n := 11) (hw.2.2.1.2.2.2.2.1 rfl) (by decide)) ?_)
  iterate 3 refine Wp.p rfl ?_
  refine Wp.g rfl (in_of (n := 6) (hw.2.1.1 rfl) (by decide)) ?_
  iterate 1 refine Wp.p rfl ?_
  have ht : ∀ v, v < 6 → (sA S2 370 (tn a) (r (tn a) &&& (m_sv 500 (tn b) ^^^ -1))).2.2 370 v = upd r (tn a) (r (tn a) &&& (m_sv 500 (tn b) ^^^ -1)) v := fun v hv => by
    have := afM (i := tn a) (x := r (tn a) &&& (m_sv 500 (tn b) ^^^ -1)) (fun v hv => (a2 v).trans (afM (i := tn a) (x := r (tn a) &&& m_sv 500 (tn b)) hrow v hv)) v hv
    rw [upd_upd] at this
    exact this
  have i3 : ∀ S3, Gm S2 S3 → c < nI P.1 → (∀ v, v < 6 → ¬ upd r (tn a) (r (tn a) &&& m_sv 500 (tn b)) v = 0) → oIn (mO S3) (tn c) (upd r (tn a) (r (tn a) &&& m_sv 500 (tn b))) := fun S3 g3 b1 nz => (i2 b1 nz).up g3.2.1 (Nat.lt_of_lt_of_le (oEg_tg hP hs (c, upd r (tn a) (r (tn a) &&& m_sv 500 (tn b))) (by rw [eE]; exact List.mem_cons_self) b1).2 hn)
  have g3 : Gm S2 (sA S2 370 (tn a) (r (tn a) &&& (m_sv 500 (tn b) ^^^ -1))) := Gm.af (Fr.rf.a (by decide))
  refine (s_m_go813 hc hs hr ((g1.tr g2).tr g3) (c2.af (Fr.rf.a (by decide))) ht (by rw [eE]; exact List.mem_cons_of_mem _ (List.mem_singleton.mpr rfl)) (fun e he => ?_) (fun _ p hp => absurd (show p ∈ [] by rw [eA] at hp; exact hp) List.not_mem_nil) h).sub (lS.mk rfl rfl (by repeat (first | exact lSub.nil | refine lSub.cons rfl ?_)))
  rw [eE] at he
  have he : e ∈ [(c, upd r (tn a) (r (tn a) &&& m_sv 500 (tn b))), (nI (s + 1), upd r (tn a) (r (tn a) &&& (m_sv 500 (tn b) ^^^ -1)))] := he
  rw [List.mem_cons, List.mem_singleton] at he
  rcases he with rfl | rfl
  · exact Or.inr (i3 _ g3)
  · exact Or.inl rfl
theorem s_m_goOn_k5 {d s : Nat} {S : mS} {Q : mQ} {P : oP} {al r : Nat → Int32} {a b c : Int32} (hw : wS 5 a b c) (hc : MI P S) (hs : s < P.1) (hr : (mO S).2.2 s = true) (hrow : ∀ v, v < 6 → S.2.2 370 v = r v) (hal : ∀ w, w < 3 → al w = S.2.2 368 w) (eE : oEg P (mO S) s = egF 5 (nI (s + 1)) a b c al r) (eA : oAd P (mO S) s = adS 5 a b al r) (l2 : le (S.2.2 368 2) 25) (h : ∀ S', mGo P s S S' → Q none S') : Wp (d + 2) n_X6_goOn 93 [(6, .int (xB 5 r b)), (5, .int (xA 5 r a)), (4, .int c), (3, .int b), (2, .int a), (0, .ref 6), (1, .int (nI s))] [.int (nI 5)] S Q := by
  have hP := hc.1.1
  have hn := hP.1
  iterate 7 refine Wp.p rfl ?_
  refine Wp.g rfl (in_of (n := 6) (hw.2.1.1 rfl) (by decide)) ?_
  have g1 : Gm S (sA S 370 (tn a) (r (tn a) &&& 1)) := Gm.af (Fr.rf.a (by decide))
  have c1 : MI P (sA S 370 (tn a) (r (tn a) &&& 1)) := hc.af (Fr.rf.a (by decide))
  iterate 2 refine Wp.p rfl ?_
  refine Wp.i rfl (s_m_comes (t := upd r (tn a) (r (tn a) &&& 1)) c1 (afM hrow) (hw.2.2.2.2.2.2.2.2 rfl).1 (fun b' nz => hc.2.1.e hn hs hr (e := (c, upd r (tn a) (r (tn a) &&& 1))) (by rw [eE]; exact List.mem_cons_self) b' nz) (fun S2 g2 c2 a2 i2 => ?_))
  iterate 6 refine Wp.p rfl ?_
  refine Wp.g rfl (in_of (n := 6) (hw.2.1.1 rfl) (by decide)) ?_
  iterate 1 refine Wp.p rfl ?_
  have ht : ∀ v, v < 6 → (sA S2 370 (tn a) (r (tn a) &&& -2)).2.2 370 v = upd r (tn a) (r (tn a) &&& -2) v := fun v hv => by
    have := afM (i := tn a) (x := r (tn a) &&& -2) (fun v hv => (a2 v).trans (afM (i := tn a) (x := r (tn a) &&& 1) hrow v hv)) v hv
    rw [upd_upd] at this
    exact this
  have i3 : ∀ S3, Gm S2 S3 → c < nI P.1 → (∀ v, v < 6 → ¬ upd r (tn a) (r (tn a) &&& 1) v = 0) → oIn (mO S3) (tn c) (upd r (tn a) (r (tn a) &&& 1)) := fun S3 g3 b1 nz => (i2 b1 nz).up g3.2.1 (Nat.lt_of_lt_of_le (oEg_tg hP hs (c, upd r (tn a) (r (tn a) &&& 1)) (by rw [eE]; exact List.mem_cons_self) b1).2 hn)
  have g3 : Gm S2 (sA S2 370 (tn a) (r (tn a) &&& -2)) := Gm.af (Fr.rf.a (by decide))
  refine (s_m_go813 hc hs hr ((g1.tr g2).tr g3) (c2.af (Fr.rf.a (by decide))) ht (by rw [eE]; exact List.mem_cons_of_mem _ (List.mem_singleton.mpr rfl)) (fun e he => ?_) (fun _ p hp => absurd (show p ∈ [] by rw [eA] at hp; exact hp) List.not_mem_nil) h).sub (lS.mk rfl rfl (by repeat (first | exact lSub.nil | refine lSub.cons rfl ?_)))
  rw [eE] at he
  have he : e ∈ [(c, upd r (tn a) (r (tn a) &&& 1)), (nI (s + 1), upd r (tn a) (r (tn a) &&& -2))] := he
  rw [List.mem_cons, List.mem_singleton] at he
  rcases he with rfl | rfl
  · exact Or.inr (i3 _ g3)
  · exact Or.inl rfl
theorem s_m_goOn_k6 {d s : Nat} {S : mS} {Q : mQ} {P : oP} {al r : Nat → Int32} {a b c : Int32} (hw : wS 6 a b c) (hc : MI P S) (hs : s < P.1) (hr : (mO S).2.2 s = true) (hrow : ∀ v, v < 6 → S.2.2 370 v = r v) (hal : ∀ w, w < 3 → al w = S.2.2 368 w) (eE : oEg P (mO S) s = egF 6 (nI (s + 1)) a b c al r) (eA : oAd P (mO S) s = adS 6 a b al r) (l2 : le (S.2.2 368 2) 25) (h : ∀ S', mGo P s S S' → Q none S') : Wp (d + 2) n_X6_goOn 93 [(6, .int (xB 6 r b)), (5, .int (xA 6 r a)), (4, .int c), (3, .int b), (2, .int a), (0, .ref 6), (1, .int (nI s))] [.int (nI 6)] S Q := by
  have hP := hc.1.1
  have hn := hP.1
  iterate 6 refine Wp.p rfl ?_
  refine Wp.i rfl (s_m_bitsOf (in_of (n := 11) (hw.2.2.1.2.2.2.2.1 rfl) (by decide)) ?_)
  iterate 3 refine Wp.p rfl ?_
  refine Wp.g rfl (in_of (n := 6) (hw.2.1.1 rfl) (by decide)) ?_
  iterate 5 refine Wp.p rfl ?_
  refine Wp.i rfl (s_m_bitsOf (in_of (n := 11) (hw.2.2.1.2.2.2.2.1 rfl) (by decide)) ?_)
  iterate 3 refine Wp.p rfl ?_
  refine Wp.g rfl (in_of (n := 6) (hw.2.2.2.1 rfl) (by decide)) ?_
  iterate 1 refine Wp.p rfl ?_
  exact (s_m_go813 hc hs hr (Gm.af ((Fr.rf.a (by decide)).a (by decide))) (hc.af ((Fr.rf.a (by decide)).a (by decide))) (afM (afM hrow)) (by rw [eE]; exact List.mem_singleton.mpr rfl) (fun e he => Or.inl (by rw [eE] at he; exact List.mem_singleton.mp he)) (fun _ p hp => absurd (show p ∈ [] by rw [eA] at hp; exact hp) List.not_mem_nil) h).sub (lS.mk rfl rfl (by repeat (first | exact lSub.nil | refine lSub.cons rfl ?_)))
theorem s_m_goOn_k7 {d s : Nat} {S : mS} {Q : mQ} {P : oP} {al r : Nat → Int32} {a b c : Int32} (hw : wS 7 a b c) (hc : MI P S) (hs : s < P.1) (hr : (mO S).2.2 s = true) (hrow : ∀ v, v < 6 → S.2.2 370 v = r v) (hal : ∀ w, w < 3 → al w = S.2.2 368 w) (eE : oEg P (mO S) s = egF 7 (nI (s + 1)) a b c al r) (eA : oAd P (mO S) s = adS 7 a b al r) (l2 : le (S.2.2 368 2) 25) (h : ∀ S', mGo P s S S' → Q none S') : Wp (d + 2) n_X6_goOn 93 [(6, .int (xB 7 r b)), (5, .int (xA 7 r a)), (4, .int c), (3, .int b), (2, .int a), (0, .ref 6), (1, .int (nI s))] [.int (nI 7)] S Q := by
  have hP := hc.1.1
  have hn := hP.1
  iterate 4 refine Wp.p rfl ?_
  refine Wp.b rfl (fun (z : ¬ r (tn b) &&& 30 = 0) => ?_) (fun (z : ¬ ¬ r (tn b) &&& 30 = 0) => ?_)
  case refine_2 =>
    refine Wp.r rfl trivial (h S (s_m_goEnd hs (Gm.af Fr.rf) hc (fun e he => ?_) (fun _ p hp => absurd (show p ∈ [] by rw [eA] at hp; exact hp) List.not_mem_nil)))
    rw [eE, show egF 7 (nI (s + 1)) a b c al r = [] from if_neg z] at he
    cases he
  have eE2 : oEg P (mO S) s = [(nI (s + 1), upd (upd r (tn b) (r (tn b) &&& 30)) (tn a) (al 0))] := eE.trans (if_pos z)
  iterate 6 refine Wp.p rfl ?_
  refine Wp.g rfl (in_of (n := 6) (hw.2.2.1.1 rfl) (by decide)) ?_
  iterate 6 refine Wp.p rfl ?_
  refine Wp.g rfl (show vp_in 0 3 by unfold vp_in; decide) ?_
  refine Wp.g rfl (in_of (n := 6) (hw.2.1.1 rfl) (by decide)) ?_
  iterate 1 refine Wp.p rfl ?_
  rw [hal 0 (by decide)] at eE2
  exact (s_m_go813 hc hs hr (Gm.af ((Fr.rf.a (by decide)).a (by decide))) (hc.af ((Fr.rf.a (by decide)).a (by decide))) (afM (afM hrow)) (by rw [eE2]; exact List.mem_singleton.mpr rfl) (fun e he => Or.inl (by rw [eE2] at he; exact List.mem_singleton.mp he)) (fun _ p hp => absurd (show p ∈ [] by rw [eA] at hp; exact hp) List.not_mem_nil) h).sub (lS.mk rfl rfl (by repeat (first | exact lSub.nil | refine lSub.cons rfl ?_)))
theorem s_m_goOn_k8 {d s : Nat} {S : mS} {Q : mQ} {P : oP} {al r : Nat → Int32} {a b c : Int32} (hw : wS 8 a b c) (hc : MI P S) (hs : s < P.1) (hr : (mO S).2.2 s = true) (hrow : ∀ v, v < 6 → S.2.2 370 v = r v) (hal : ∀ w, w < 3 → al w = S.2.2 368 w) (eE : oEg P (mO S) s = egF 8 (nI (s + 1)) a b c al r) (eA : oAd P (mO S) s = adS 8 a b al r) (l2 : le (S.2.2 368 2) 25) (h : ∀ S', mGo P s S S' → Q none S') : Wp (d + 2) n_X6_goOn 93 [(6, .int (xB 8 r b)), (5, .int (xA 8 r a)), (4, .int c), (3, .int b), (2, .int a), (0, .ref 6), (1, .int (nI s))] [.int (nI 8)] S Q := by
  have hP := hc.1.1
  have hn := hP.1
  iterate 7 refine Wp.p rfl ?_
  refine Wp.g rfl (in_of (n := 6) (hw.2.1.1 rfl) (by decide)) ?_
  iterate 3 refine Wp.p rfl ?_
  refine Wp.g rfl (in_of (n := 6) (hw.2.1.1 rfl) (by decide)) ?_
  have ev : (sA S 370 (tn a) (r (tn a) &&& 30)).2.2 370 (tn a) = r (tn a) &&& 30 := by rw [sA_at]; exact upd_at
  have c1 : MI P (sA S 370 (tn a) (r (tn a) &&& 30)) := hc.af (Fr.rf.a (by decide))
  have g1 : Gm S (sA S 370 (tn a) (r (tn a) &&& 30)) := Gm.af (Fr.rf.a (by decide))
  refine Wp.b rfl (fun (z : (sA S 370 (tn a) (r (tn a) &&& 30)).2.2 370 (tn a) = 0) => ?_) (fun (z : ¬ (sA S 370 (tn a) (r (tn a) &&& 30)).2.2 370 (tn a) = 0) => ?_)
  · rw [ev] at z
    exact (s_m_go813 hc hs hr g1 c1 (afM hrow) (by rw [eE]; exact List.mem_singleton.mpr rfl) (fun e he => Or.inl (by rw [eE] at he; exact List.mem_singleton.mp he)) (fun _ p hp => absurd (show p ∈ [] by rw [eA, show adS 8 a b al r = [] from if_neg (fun y => y z)] at hp; exact hp) List.not_mem_nil) h).sub (lS.mk rfl rfl (by repeat (first | exact lSub.nil | refine lSub.cons rfl ?_)))
  · rw [ev] at z
    have eA2 : oAd P (mO S) s = [(0, r (tn b))] := eA.trans (if_pos z)
    iterate 3 refine Wp.p rfl ?_
    refine Wp.i rfl (s_m_adds (w := 0) (x := r (tn b)) c1 (by decide) (hc.2.1.a hn hs hr (p := (0, r (tn b))) (by rw [eA2]; exact List.mem_singleton.mpr rfl)) (fun S2 g2 c2 _ a2 i2 => ?_))
    iterate 1 refine Wp.p rfl ?_
    exact (s_m_go813 hc hs hr (g1.tr g2) c2 (fun v hv => (a2 v).trans (afM hrow v hv)) (by rw [eE]; exact List.mem_singleton.mpr rfl) (fun e he => Or.inl (by rw [eE] at he; exact List.mem_singleton.mp he)) (fun _ p hp => by rw [eA2, List.mem_singleton] at hp; rw [hp]; exact i2) h).sub (lS.mk rfl rfl (by repeat (first | exact lSub.nil | refine lSub.cons rfl ?_)))
theorem s_m_goOn_k9 {d s : Nat} {S : mS} {Q : mQ} {P : oP} {al r : Nat → Int32} {a b c : Int32} (hw : wS 9 a b c) (hc : MI P S) (hs : s < P.1) (hr : (mO S).2.2 s = true) (hrow : ∀ v, v < 6 → S.2.2 370 v = r v) (hal : ∀ w, w < 3 → al w = S.2.2 368 w) (eE : oEg P (mO S) s = egF 9 (nI (s + 1)) a b c al r) (eA : oAd P (mO S) s = adS 9 a b al r) (l2 : le (S.2.2 368 2) 25) (h : ∀ S', mGo P s S S' → Q none S') : Wp (d + 2) n_X6_goOn 93 [(6, .int (xB 9 r b)), (5, .int (xA 9 r a)), (4, .int c), (3, .int b), (2, .int a), (0, .ref 6), (1, .int (nI s))] [.int (nI 9)] S Q := by
  have hP := hc.1.1
  have hn := hP.1
  iterate 4 refine Wp.p rfl ?_
  refine Wp.b rfl (fun (z : ¬ r (tn b) &&& 384 = 0) => ?_) (fun (z : ¬ ¬ r (tn b) &&& 384 = 0) => ?_)
  case refine_2 =>
    refine Wp.r rfl trivial (h S (s_m_goEnd hs (Gm.af Fr.rf) hc (fun e he => ?_) (fun _ p hp => absurd (show p ∈ [] by rw [eA] at hp; exact hp) List.not_mem_nil)))
    rw [eE, show egF 9 (nI (s + 1)) a b c al r = [] from if_neg z] at he
    cases he
  have eE2 : oEg P (mO S) s = [(nI (s + 1), upd (upd r (tn b) (r (tn b) &&& 384)) (tn a) (CO (r (tn b)) al))] := eE.trans (if_pos z)
  iterate 6 refine Wp.p rfl ?_
  refine Wp.g rfl (in_of (n := 6) (hw.2.2.1.1 rfl) (by decide)) ?_
  have k468 : ∀ x y : Int32, x = (if sh (r (tn b)) 128 then al 1 else 0) → y = (if sh (r (tn b)) 256 then al 2 else 0) → Wp (d + 2) n_X6_goOn 468 [(6, .int (xB 9 r b)), (5, .int (xA 9 r a)), (4, .int c), (3, .int b), (2, .int a), (0, .ref 6), (1, .int (nI s))] [.int y, .int x, .int a, .ref 370] (sA S 370 (tn b) (r (tn b) &&& 384)) Q := fun x y hx hy => by
    rw [hx, hy]
    iterate 1 refine Wp.p rfl ?_
    refine Wp.g rfl (in_of (n := 6) (hw.2.1.1 rfl) (by decide)) ?_
    iterate 1 refine Wp.p rfl ?_
    exact (s_m_go813 hc hs hr (Gm.af ((Fr.rf.a (by decide)).a (by decide))) (hc.af ((Fr.rf.a (by decide)).a (by decide))) (afM (afM hrow)) (by rw [eE2]; exact List.mem_singleton.mpr rfl) (fun e he => Or.inl (by rw [eE2] at he; exact List.mem_singleton.mp he)) (fun _ p hp => absurd (show p ∈ [] by rw [eA] at hp; exact hp) List.not_mem_nil) h).sub (lS.mk rfl rfl (by repeat (first | exact lSub.nil | refine lSub.cons rfl ?_)))
  have k449 : ∀ x : Int32, x = (if sh (r (tn b)) 128 then al 1 else 0) → Wp (d + 2) n_X6_goOn 449 [(6, .int (xB 9 r b)), (5, .int (xA 9 r a)), (4, .int c), (3, .int b), (2, .int a), (0, .ref 6), (1, .int (nI s))] [.int x, .int a, .ref 370] (sA S 370 (tn b) (r (tn b) &&& 384)) Q := fun x hx => by
    iterate 3 refine Wp.p rfl ?_
    refine Wp.b rfl (fun (y : r (tn b) &&& 256 = 0) => ?_) (fun (y : ¬ r (tn b) &&& 256 = 0) => ?_)
    · iterate 1 refine Wp.p rfl ?_
      exact k468 x 0 hx (if_neg (fun w => w y)).symm
    · iterate 3 refine Wp.p rfl ?_
      refine Wp.g rfl (show vp_in 2 3 by unfold vp_in; decide) ?_
      iterate 1 refine Wp.p rfl ?_
      exact k468 x (S.2.2 368 2) hx (by rw [if_pos y, hal 2 (by decide)])
  iterate 6 refine Wp.p rfl ?_
  refine Wp.b rfl (fun (y : r (tn b) &&& 128 = 0) => ?_) (fun (y : ¬ r (tn b) &&& 128 = 0) => ?_)
  · iterate 1 refine Wp.p rfl ?_
    exact k449 0 (if_neg (fun w => w y)).symm
  · iterate 3 refine Wp.p rfl ?_
    refine Wp.g rfl (show vp_in 1 3 by unfold vp_in; decide) ?_
    iterate 1 refine Wp.p rfl ?_
    exact k449 (S.2.2 368 1) (by rw [if_pos y, hal 1 (by decide)])
theorem s_m_goOn_k10 {d s : Nat} {S : mS} {Q : mQ} {P : oP} {al r : Nat → Int32} {a b c : Int32} (hw : wS 10 a b c) (hc : MI P S) (hs : s < P.1) (hr : (mO S).2.2 s = true) (hrow : ∀ v, v < 6 → S.2.2 370 v = r v) (hal : ∀ w, w < 3 → al w = S.2.2 368 w) (eE : oEg P (mO S) s = egF 10 (nI (s + 1)) a b c al r) (eA : oAd P (mO S) s = adS 10 a b al r) (l2 : le (S.2.2 368 2) 25) (h : ∀ S', mGo P s S S' → Q none S') : Wp (d + 2) n_X6_goOn 93 [(6, .int (xB 10 r b)), (5, .int (xA 10 r a)), (4, .int c), (3, .int b), (2, .int a), (0, .ref 6), (1, .int (nI s))] [.int (nI 10)] S Q := by
  have hP := hc.1.1
  have hn := hP.1
  have st : ∀ S2, Gm S S2 → MI P S2 → (∀ v, v < 6 → S2.2.2 370 v = r v) → (S2.1 269 = 0 → ∀ p ∈ oAd P (mO S) s, le p.2 (S2.2.2 368 p.1)) → Wp (d + 2) n_X6_goOn 597 [(7, .int (r (tn a) &&& TK (r (tn b)))), (8, .int (r (tn b) &&& KT (r (tn a)))), (3, .int b), (2, .int a), (0, .ref 6), (1, .int (nI s))] [] S2 Q := fun S2 g2 c2 a2 hA => by
    have la := (V6 (in_of (n := 6) (hw.2.1.1 rfl) (by decide)) (by decide))
    have lb := (V6 (in_of (n := 6) (hw.2.2.1.1 rfl) (by decide)) (by decide))
    iterate 4 refine Wp.p rfl ?_
    refine Wp.g rfl (in_of (n := 6) (hw.2.1.1 rfl) (by decide)) ?_
    iterate 5 refine Wp.p rfl ?_
    by_cases e : a = b
    · refine Wp.b rfl (fun (z : ¬ a = b) => absurd e z) (fun _ => ?_)
      iterate 4 refine Wp.p rfl ?_
      refine Wp.g rfl (in_of (n := 6) (hw.2.2.1.1 rfl) (by decide)) ?_
      iterate 1 refine Wp.p rfl ?_
      refine (s_m_go813 (S2 := sA (sA S2 370 (tn a) (r (tn a) &&& TK (r (tn b)))) 370 (tn b) ((r (tn a) &&& TK (r (tn b))) &&& (r (tn b) &&& KT (r (tn a))))) hc hs hr (g2.tr (Gm.af ((Fr.rf.a (by decide)).a (by decide)))) (c2.af ((Fr.rf.a (by decide)).a (by decide))) (t := kB r (tn a) (TK (r (tn b))) (tn b) (KT (r (tn a)))) (fun v hv => ?_) (by rw [eE]; exact List.mem_singleton.mpr rfl) (fun e he => Or.inl (by rw [eE] at he; exact List.mem_singleton.mp he)) hA h).sub (lS.mk rfl rfl (by repeat (first | exact lSub.nil | refine lSub.cons rfl ?_)))
      have := afM (i := tn b) (x := (r (tn a) &&& TK (r (tn b))) &&& (r (tn b) &&& KT (r (tn a)))) (afM (i := tn a) (x := r (tn a) &&& TK (r (tn b))) a2) v hv
      refine this.trans ?_
      rw [← e, kB_se]
    · refine Wp.b rfl (fun _ => ?_) (fun (z : ¬ ¬ a = b) => absurd e z)
      iterate 1 refine Wp.p rfl ?_
      refine Wp.g rfl (in_of (n := 6) (hw.2.2.1.1 rfl) (by decide)) ?_
      iterate 1 refine Wp.p rfl ?_
      refine (s_m_go813 (S2 := sA (sA S2 370 (tn a) (r (tn a) &&& TK (r (tn b)))) 370 (tn b) (r (tn b) &&& KT (r (tn a)))) hc hs hr (g2.tr (Gm.af ((Fr.rf.a (by decide)).a (by decide)))) (c2.af ((Fr.rf.a (by decide)).a (by decide))) (t := kB r (tn a) (TK (r (tn b))) (tn b) (KT (r (tn a)))) (fun v hv => ?_) (by rw [eE]; exact List.mem_singleton.mpr rfl) (fun e he => Or.inl (by rw [eE] at he; exact List.mem_singleton.mp he)) hA h).sub (lS.mk rfl rfl (by repeat (first | exact lSub.nil | refine lSub.cons rfl ?_)))
      have := afM (i := tn b) (x := r (tn b) &&& KT (r (tn a))) (afM (i := tn a) (x := r (tn a) &&& TK (r (tn b))) a2) v hv
      refine this.trans ?_
      rw [kB_st (fun z => e (by rw [la.2, lb.2, z]))]
  have k594 : ∀ S2 x, Gm S S2 → MI P S2 → (∀ v, v < 6 → S2.2.2 370 v = r v) → le (if sh (r (tn a)) 128 then r (tn b) &&& 31 else 0) (S2.2.2 368 1) → x = (if sh (r (tn a)) 256 then r (tn b) &&& 25 else 0) → Wp (d + 2) n_X6_goOn 594 [(7, .int (r (tn a) &&& TK (r (tn b)))), (8, .int (r (tn b) &&& KT (r (tn a)))), (6, .int (xB 10 r b)), (5, .int (xA 10 r a)), (3, .int b), (2, .int a), (0, .ref 6), (1, .int (nI s))] [.int x, .int 2, .ref 6] S2 Q := fun S2 x g2 c2 a2 q2 hx => by
    refine Wp.i rfl (s_m_adds (w := 2) (x := x) c2 (by decide) (by rw [hx]; exact hc.2.1.a hn hs hr (p := (2, (if sh (r (tn a)) 256 then r (tn b) &&& 25 else 0))) (by rw [eA]; exact List.mem_cons_of_mem _ (List.mem_singleton.mpr rfl))) (fun S3 g3 c3 _ a3 i3 => ?_))
    refine (st S3 (g2.tr g3) c3 (fun v hv => (a3 v).trans (a2 v hv)) (fun _ p hp => ?_)).sub (lS.mk rfl rfl (by repeat (first | exact lSub.nil | refine lSub.cons rfl ?_)))
    rw [eA] at hp
    have hp : p ∈ [(1, (if sh (r (tn a)) 128 then r (tn b) &&& 31 else 0)), (2, (if sh (r (tn a)) 256 then r (tn b) &&& 25 else 0))] := hp
    rw [List.mem_cons, List.mem_singleton] at hp
    rcases hp with rfl | rfl
    · exact q2.tr (g3.2.1.2.1 1 (by decide))
    · rw [hx] at i3; exact i3
  have k571 : ∀ x, x = (if sh (r (tn a)) 128 then r (tn b) &&& 31 else 0) → Wp (d + 2) n_X6_goOn 571 [(7, .int (r (tn a) &&& TK (r (tn b)))), (8, .int (r (tn b) &&& KT (r (tn a)))), (6, .int (xB 10 r b)), (5, .int (xA 10 r a)), (3, .int b), (2, .int a), (0, .ref 6), (1, .int (nI s))] [.int x, .int 1, .ref 6] S Q := fun x hx => by
    refine Wp.i rfl (s_m_adds (w := 1) (x := x) hc (by decide) (by rw [hx]; exact hc.2.1.a hn hs hr (p := (1, (if sh (r (tn a)) 128 then r (tn b) &&& 31 else 0))) (by rw [eA]; exact List.mem_cons_self)) (fun S2 g2 c2 _ a2 i2 => ?_))
    rw [hx] at i2
    iterate 5 refine Wp.p rfl ?_
    refine Wp.b rfl (fun (y : r (tn a) &&& 256 = 0) => ?_) (fun (y : ¬ r (tn a) &&& 256 = 0) => ?_)
    · iterate 1 refine Wp.p rfl ?_
      exact k594 S2 0 g2 c2 (fun v hv => (a2 v).trans (hrow v hv)) i2 (if_neg (fun w => w y)).symm
    · iterate 4 refine Wp.p rfl ?_
      exact k594 S2 _ g2 c2 (fun v hv => (a2 v).trans (hrow v hv)) i2 (if_pos y).symm
  have k548 : ∀ x y : Int32, x = (if sh (r (tn a)) 128 then r (tn b) &&& 31 else 0) → y = (if sh (r (tn a)) 256 then r (tn b) &&& 25 else 0) → Wp (d + 2) n_X6_goOn 548 [(7, .int (r (tn a) &&& TK (r (tn b)))), (6, .int (xB 10 r b)), (5, .int (xA 10 r a)), (3, .int b), (2, .int a), (0, .ref 6), (1, .int (nI s))] [.int y, .int x] S Q := fun x y hx hy => by
    iterate 2 refine Wp.p rfl ?_
    refine (?_ : Wp (d + 2) n_X6_goOn 551 [(7, .int (r (tn a) &&& TK (r (tn b)))), (8, .int (x ||| y)), (6, .int (xB 10 r b)), (5, .int (xA 10 r a)), (3, .int b), (2, .int a), (0, .ref 6), (1, .int (nI s))] [] S Q).sub (lS.mk rfl rfl (by repeat (first | exact lSub.nil | refine lSub.cons rfl ?_)))
    rw [show x ||| y = r (tn b) &&& KT (r (tn a)) by rw [hx, hy]; exact KT_eq]
    iterate 5 refine Wp.p rfl ?_
    refine Wp.b rfl (fun (y : r (tn a) &&& 128 = 0) => ?_) (fun (y : ¬ r (tn a) &&& 128 = 0) => ?_)
    · iterate 1 refine Wp.p rfl ?_
      exact k571 0 (if_neg (fun w => w y)).symm
    · iterate 4 refine Wp.p rfl ?_
      exact k571 _ (if_pos y).symm
  have k530 : ∀ x : Int32, x = (if sh (r (tn a)) 128 then r (tn b) &&& 31 else 0) → Wp (d + 2) n_X6_goOn 530 [(7, .int (r (tn a) &&& TK (r (tn b)))), (6, .int (xB 10 r b)), (5, .int (xA 10 r a)), (3, .int b), (2, .int a), (0, .ref 6), (1, .int (nI s))] [.int x] S Q := fun x hx => by
    iterate 3 refine Wp.p rfl ?_
    refine Wp.b rfl (fun (y : r (tn a) &&& 256 = 0) => ?_) (fun (y : ¬ r (tn a) &&& 256 = 0) => ?_)
    · iterate 1 refine Wp.p rfl ?_
      exact k548 x 0 hx (if_neg (fun w => w y)).symm
    · iterate 4 refine Wp.p rfl ?_
      exact k548 x _ hx (if_pos y).symm
  have k509 : ∀ x y : Int32, x = (if sh (r (tn b)) 31 then r (tn a) &&& 128 else 0) → y = (if sh (r (tn b)) 25 then r (tn a) &&& 256 else 0) → Wp (d + 2) n_X6_goOn 509 [(6, .int (xB 10 r b)), (5, .int (xA 10 r a)), (4, .int c), (3, .int b), (2, .int a), (0, .ref 6), (1, .int (nI s))] [.int y, .int x] S Q := fun x y hx hy => by
    iterate 2 refine Wp.p rfl ?_
    refine (?_ : Wp (d + 2) n_X6_goOn 512 [(7, .int (x ||| y)), (6, .int (xB 10 r b)), (5, .int (xA 10 r a)), (3, .int b), (2, .int a), (0, .ref 6), (1, .int (nI s))] [] S Q).sub (lS.mk rfl rfl (by repeat (first | exact lSub.nil | refine lSub.cons rfl ?_)))
    rw [show x ||| y = r (tn a) &&& TK (r (tn b)) by rw [hx, hy]; exact TK_eq]
    iterate 3 refine Wp.p rfl ?_
    refine Wp.b rfl (fun (y : r (tn a) &&& 128 = 0) => ?_) (fun (y : ¬ r (tn a) &&& 128 = 0) => ?_)
    · iterate 1 refine Wp.p rfl ?_
      exact k530 0 (if_neg (fun w => w y)).symm
    · iterate 4 refine Wp.p rfl ?_
      exact k530 _ (if_pos y).symm
  have k491 : ∀ x : Int32, x = (if sh (r (tn b)) 31 then r (tn a) &&& 128 else 0) → Wp (d + 2) n_X6_goOn 491 [(6, .int (xB 10 r b)), (5, .int (xA 10 r a)), (4, .int c), (3, .int b), (2, .int a), (0, .ref 6), (1, .int (nI s))] [.int x] S Q := fun x hx => by
    iterate 3 refine Wp.p rfl ?_
    refine Wp.b rfl (fun (y : r (tn b) &&& 25 = 0) => ?_) (fun (y : ¬ r (tn b) &&& 25 = 0) => ?_)
    · iterate 1 refine Wp.p rfl ?_
      exact k509 x 0 hx (if_neg (fun w => w y)).symm
    · iterate 4 refine Wp.p rfl ?_
      exact k509 x _ hx (if_pos y).symm
  iterate 4 refine Wp.p rfl ?_
  refine Wp.b rfl (fun (y : r (tn b) &&& 31 = 0) => ?_) (fun (y : ¬ r (tn b) &&& 31 = 0) => ?_)
  · iterate 1 refine Wp.p rfl ?_
    exact k491 0 (if_neg (fun w => w y)).symm
  · iterate 4 refine Wp.p rfl ?_
    exact k491 _ (if_pos y).symm
theorem s_m_goOn_k11 {d s : Nat} {S : mS} {Q : mQ} {P : oP} {al r : Nat → Int32} {a b c : Int32} (hw : wS 11 a b c) (hc : MI P S) (hs : s < P.1) (hr : (mO S).2.2 s = true) (hrow : ∀ v, v < 6 → S.2.2 370 v = r v) (hal : ∀ w, w < 3 → al w = S.2.2 368 w) (eE : oEg P (mO S) s = egF 11 (nI (s + 1)) a b c al r) (eA : oAd P (mO S) s = adS 11 a b al r) (l2 : le (S.2.2 368 2) 25) (h : ∀ S', mGo P s S S' → Q none S') : Wp (d + 2) n_X6_goOn 93 [(6, .int (xB 11 r b)), (5, .int (xA 11 r a)), (4, .int c), (3, .int b), (2, .int a), (0, .ref 6), (1, .int (nI s))] [.int (nI 11)] S Q := by
  have hP := hc.1.1
  have hn := hP.1
  iterate 7 refine Wp.p rfl ?_
  refine Wp.g rfl (in_of (n := 6) (hw.2.2.1.1 rfl) (by decide)) ?_
  iterate 1 refine Wp.p rfl ?_
  exact (s_m_go813 hc hs hr (Gm.af (Fr.rf.a (by decide))) (hc.af (Fr.rf.a (by decide))) (afM hrow) (by rw [eE]; exact List.mem_singleton.mpr rfl) (fun e he => Or.inl (by rw [eE] at he; exact List.mem_singleton.mp he)) (fun _ p hp => absurd (show p ∈ [] by rw [eA] at hp; exact hp) List.not_mem_nil) h).sub (lS.mk rfl rfl (by repeat (first | exact lSub.nil | refine lSub.cons rfl ?_)))
theorem s_m_goOn_k12 {d s : Nat} {S : mS} {Q : mQ} {P : oP} {al r : Nat → Int32} {a b c : Int32} (hw : wS 12 a b c) (hc : MI P S) (hs : s < P.1) (hr : (mO S).2.2 s = true) (hrow : ∀ v, v < 6 → S.2.2 370 v = r v) (hal : ∀ w, w < 3 → al w = S.2.2 368 w) (eE : oEg P (mO S) s = egF 12 (nI (s + 1)) a b c al r) (eA : oAd P (mO S) s = adS 12 a b al r) (l2 : le (S.2.2 368 2) 25) (h : ∀ S', mGo P s S S' → Q none S') : Wp (d + 2) n_X6_goOn 93 [(6, .int (xB 12 r b)), (5, .int (xA 12 r a)), (4, .int c), (3, .int b), (2, .int a), (0, .ref 6), (1, .int (nI s))] [.int (nI 12)] S Q := by
  have hP := hc.1.1
  have hn := hP.1
  iterate 7 refine Wp.p rfl ?_
  refine Wp.g rfl (in_of (n := 6) (hw.2.2.1.1 rfl) (by decide)) ?_
  iterate 1 refine Wp.p rfl ?_
  exact (s_m_go813 hc hs hr (Gm.af (Fr.rf.a (by decide))) (hc.af (Fr.rf.a (by decide))) (afM hrow) (by rw [eE]; exact List.mem_singleton.mpr rfl) (fun e he => Or.inl (by rw [eE] at he; exact List.mem_singleton.mp he)) (fun _ p hp => absurd (show p ∈ [] by rw [eA] at hp; exact hp) List.not_mem_nil) h).sub (lS.mk rfl rfl (by repeat (first | exact lSub.nil | refine lSub.cons rfl ?_)))
theorem s_m_goOn_k13 {d s : Nat} {S : mS} {Q : mQ} {P : oP} {al r : Nat → Int32} {a b c : Int32} (hw : wS 13 a b c) (hc : MI P S) (hs : s < P.1) (hr : (mO S).2.2 s = true) (hrow : ∀ v, v < 6 → S.2.2 370 v = r v) (hal : ∀ w, w < 3 → al w = S.2.2 368 w) (eE : oEg P (mO S) s = egF 13 (nI (s + 1)) a b c al r) (eA : oAd P (mO S) s = adS 13 a b al r) (l2 : le (S.2.2 368 2) 25) (h : ∀ S', mGo P s S S' → Q none S') : Wp (d + 2) n_X6_goOn 93 [(6, .int (xB 13 r b)), (5, .int (xA 13 r a)), (4, .int c), (3, .int b), (2, .int a), (0, .ref 6), (1, .int (nI s))] [.int (nI 13)] S Q := by
  have hP := hc.1.1
  have hn := hP.1
  iterate 7 refine Wp.p rfl ?_
  refine Wp.g rfl (in_of (n := 6) (hw.2.2.1.1 rfl) (by decide)) ?_
  iterate 1 refine Wp.p rfl ?_
  exact (s_m_go813 hc hs hr (Gm.af (Fr.rf.a (by decide))) (hc.af (Fr.rf.a (by decide))) (afM hrow) (by rw [eE]; exact List.mem_singleton.mpr rfl) (fun e he => Or.inl (by rw [eE] at he; exact List.mem_singleton.mp he)) (fun _ p hp => absurd (show p ∈ [] by rw [eA] at hp; exact hp) List.not_mem_nil) h).sub (lS.mk rfl rfl (by repeat (first | exact lSub.nil | refine lSub.cons rfl ?_)))
theorem s_m_goOn_k14 {d s : Nat} {S : mS} {Q : mQ} {P : oP} {al r : Nat → Int32} {a b c : Int32} (hw : wS 14 a b c) (hc : MI P S) (hs : s < P.1) (hr : (mO S).2.2 s = true) (hrow : ∀ v, v < 6 → S.2.2 370 v = r v) (hal : ∀ w, w < 3 → al w = S.2.2 368 w) (eE : oEg P (mO S) s = egF 14 (nI (s + 1)) a b c al r) (eA : oAd P (mO S) s = adS 14 a b al r) (l2 : le (S.2.2 368 2) 25) (h : ∀ S', mGo P s S S' → Q none S') : Wp (d + 2) n_X6_goOn 93 [(6, .int (xB 14 r b)), (5, .int (xA 14 r a)), (4, .int c), (3, .int b), (2, .int a), (0, .ref 6), (1, .int (nI s))] [.int (nI 14)] S Q := by
  have hP := hc.1.1
  have hn := hP.1
  iterate 7 refine Wp.p rfl ?_
  refine Wp.g rfl (in_of (n := 6) (hw.2.2.1.1 rfl) (by decide)) ?_
  iterate 1 refine Wp.p rfl ?_
  exact (s_m_go813 hc hs hr (Gm.af (Fr.rf.a (by decide))) (hc.af (Fr.rf.a (by decide))) (afM hrow) (by rw [eE]; exact List.mem_singleton.mpr rfl) (fun e he => Or.inl (by rw [eE] at he; exact List.mem_singleton.mp he)) (fun _ p hp => absurd (show p ∈ [] by rw [eA] at hp; exact hp) List.not_mem_nil) h).sub (lS.mk rfl rfl (by repeat (first | exact lSub.nil | refine lSub.cons rfl ?_)))
theorem s_m_goOn_k15 {d s : Nat} {S : mS} {Q : mQ} {P : oP} {al r : Nat → Int32} {a b c : Int32} (hw : wS 15 a b c) (hc : MI P S) (hs : s < P.1) (hr : (mO S).2.2 s = true) (hrow : ∀ v, v < 6 → S.2.2 370 v = r v) (hal : ∀ w, w < 3 → al w = S.2.2 368 w) (eE : oEg P (mO S) s = egF 15 (nI (s + 1)) a b c al r) (eA : oAd P (mO S) s = adS 15 a b al r) (l2 : le (S.2.2 368 2) 25) (h : ∀ S', mGo P s S S' → Q none S') : Wp (d + 2) n_X6_goOn 93 [(6, .int (xB 15 r b)), (5, .int (xA 15 r a)), (4, .int c), (3, .int b), (2, .int a), (0, .ref 6), (1, .int (nI s))] [.int (nI 15)] S Q := by
  have hP := hc.1.1
  have hn := hP.1
  iterate 7 refine Wp.p rfl ?_
  refine Wp.g rfl (in_of (n := 6) (hw.2.1.1 rfl) (by decide)) ?_
  iterate 1 refine Wp.p rfl ?_
  exact (s_m_go813 hc hs hr (Gm.af (Fr.rf.a (by decide))) (hc.af (Fr.rf.a (by decide))) (afM hrow) (by rw [eE]; exact List.mem_singleton.mpr rfl) (fun e he => Or.inl (by rw [eE] at he; exact List.mem_singleton.mp he)) (fun _ p hp => absurd (show p ∈ [] by rw [eA] at hp; exact hp) List.not_mem_nil) h).sub (lS.mk rfl rfl (by repeat (first | exact lSub.nil | refine lSub.cons rfl ?_)))
theorem s_m_goOn_k16 {d s : Nat} {S : mS} {Q : mQ} {P : oP} {al r : Nat → Int32} {a b c : Int32} (hw : wS 16 a b c) (hc : MI P S) (hs : s < P.1) (hr : (mO S).2.2 s = true) (hrow : ∀ v, v < 6 → S.2.2 370 v = r v) (hal : ∀ w, w < 3 → al w = S.2.2 368 w) (eE : oEg P (mO S) s = egF 16 (nI (s + 1)) a b c al r) (eA : oAd P (mO S) s = adS 16 a b al r) (l2 : le (S.2.2 368 2) 25) (h : ∀ S', mGo P s S S' → Q none S') : Wp (d + 2) n_X6_goOn 93 [(6, .int (xB 16 r b)), (5, .int (xA 16 r a)), (4, .int c), (3, .int b), (2, .int a), (0, .ref 6), (1, .int (nI s))] [.int (nI 16)] S Q := by
  have hP := hc.1.1
  have hn := hP.1
  iterate 1 refine Wp.p rfl ?_
  exact (s_m_go813 hc hs hr (Gm.af Fr.rf) hc hrow (by rw [eE]; exact List.mem_singleton.mpr rfl) (fun e he => Or.inl (by rw [eE] at he; exact List.mem_singleton.mp he)) (fun _ p hp => absurd (show p ∈ [] by rw [eA] at hp; exact hp) List.not_mem_nil) h).sub (lS.mk rfl rfl (by repeat (first | exact lSub.nil | refine lSub.cons rfl ?_)))
theorem s_m_goOn_k17 {d s : Nat} {S : mS} {Q : mQ} {P : oP} {al r : Nat → Int32} {a b c : Int32} (hw : wS 17 a b c) (hc : MI P S) (hs : s < P.1) (hr : (mO S).2.2 s = true) (hrow : ∀ v, v < 6 → S.2.2 370 v = r v) (hal : ∀ w, w < 3 → al w = S.2.2 368 w) (eE : oEg P (mO S) s = egF 17 (nI (s + 1)) a b c al r) (eA : oAd P (mO S) s = adS 17 a b al r) (l2 : le (S.2.2 368 2) 25) (h : ∀ S', mGo P s S S' → Q none S') : Wp (d + 2) n_X6_goOn 93 [(6, .int (xB 17 r b)), (5, .int (xA 17 r a)), (4, .int c), (3, .int b), (2, .int a), (0, .ref 6), (1, .int (nI s))] [.int (nI 17)] S Q := by
  have hP := hc.1.1
  have hn := hP.1
  iterate 1 refine Wp.p rfl ?_
  exact (s_m_go813 hc hs hr (Gm.af Fr.rf) hc hrow (by rw [eE]; exact List.mem_singleton.mpr rfl) (fun e he => Or.inl (by rw [eE] at he; exact List.mem_singleton.mp he)) (fun _ p hp => absurd (show p ∈ [] by rw [eA] at hp; exact hp) List.not_mem_nil) h).sub (lS.mk rfl rfl (by repeat (first | exact lSub.nil | refine lSub.cons rfl ?_)))
theorem s_m_goOn_k18 {d s : Nat} {S : mS} {Q : mQ} {P : oP} {al r : Nat → Int32} {a b c : Int32} (hw : wS 18 a b c) (hc : MI P S) (hs : s < P.1) (hr : (mO S).2.2 s = true) (hrow : ∀ v, v < 6 → S.2.2 370 v = r v) (hal : ∀ w, w < 3 → al w = S.2.2 368 w) (eE : oEg P (mO S) s = egF 18 (nI (s + 1)) a b c al r) (eA : oAd P (mO S) s = adS 18 a b al r) (l2 : le (S.2.2 368 2) 25) (h : ∀ S', mGo P s S S' → Q none S') : Wp (d + 2) n_X6_goOn 93 [(6, .int (xB 18 r b)), (5, .int (xA 18 r a)), (4, .int c), (3, .int b), (2, .int a), (0, .ref 6), (1, .int (nI s))] [.int (nI 18)] S Q := by
  have hP := hc.1.1
  have hn := hP.1
  iterate 1 refine Wp.p rfl ?_
  exact (s_m_go813 hc hs hr (Gm.af Fr.rf) hc hrow (by rw [eE]; exact List.mem_singleton.mpr rfl) (fun e he => Or.inl (by rw [eE] at he; exact List.mem_singleton.mp he)) (fun _ p hp => absurd (show p ∈ [] by rw [eA] at hp; exact hp) List.not_mem_nil) h).sub (lS.mk rfl rfl (by repeat (first | exact lSub.nil | refine lSub.cons rfl ?_)))
theorem s_m_goOn_k19 {d s : Nat} {S : mS} {Q : mQ} {P : oP} {al r : Nat → Int32} {a b c : Int32} (hw : wS 19 a b c) (hc : MI P S) (hs : s < P.1) (hr : (mO S).2.2 s = true) (hrow : ∀ v, v < 6 → S.2.2 370 v = r v) (hal : ∀ w, w < 3 → al w = S.2.2 368 w) (eE : oEg P (mO S) s = egF 19 (nI (s + 1)) a b c al r) (eA : oAd P (mO S) s = adS 19 a b al r) (l2 : le (S.2.2 368 2) 25) (h : ∀ S', mGo P s S S' → Q none S') : Wp (d + 2) n_X6_goOn 93 [(6, .int (xB 19 r b)), (5, .int (xA 19 r a)), (4, .int c), (3, .int b), (2, .int a), (0, .ref 6), (1, .int (nI s))] [.int (nI 19)] S Q := by
  have hP := hc.1.1
  have hn := hP.1
  iterate 3 refine Wp.p rfl ?_
  refine Wp.i rfl (s_m_comes (t := r) hc hrow (hw.2.2.2.2.2.2.2.2 rfl).1 (fun b' nz => hc.2.1.e hn hs hr (e := (c, r)) (by rw [eE]; exact List.mem_cons_self) b' nz) (fun S2 g2 c2 a2 i2 => ?_))
  iterate 1 refine Wp.p rfl ?_
  refine (s_m_go813 hc hs hr g2 c2 (t := r) (fun v hv => (a2 v).trans (hrow v hv)) (by rw [eE]; exact List.mem_cons_of_mem _ (List.mem_singleton.mpr rfl)) (fun e he => ?_) (fun _ p hp => absurd (show p ∈ [] by rw [eA] at hp; exact hp) List.not_mem_nil) h).sub (lS.mk rfl rfl (by repeat (first | exact lSub.nil | refine lSub.cons rfl ?_)))
  rw [eE] at he
  have he : e ∈ [(c, r), (nI (s + 1), r)] := he
  rw [List.mem_cons, List.mem_singleton] at he
  rcases he with rfl | rfl
  · exact Or.inr i2
  · exact Or.inl rfl
theorem s_m_goOn_k20 {d s : Nat} {S : mS} {Q : mQ} {P : oP} {al r : Nat → Int32} {a b c : Int32} (hw : wS 20 a b c) (hc : MI P S) (hs : s < P.1) (hr : (mO S).2.2 s = true) (hrow : ∀ v, v < 6 → S.2.2 370 v = r v) (hal : ∀ w, w < 3 → al w = S.2.2 368 w) (eE : oEg P (mO S) s = egF 20 (nI (s + 1)) a b c al r) (eA : oAd P (mO S) s = adS 20 a b al r) (l2 : le (S.2.2 368 2) 25) (h : ∀ S', mGo P s S S' → Q none S') : Wp (d + 2) n_X6_goOn 93 [(6, .int (xB 20 r b)), (5, .int (xA 20 r a)), (4, .int c), (3, .int b), (2, .int a), (0, .ref 6), (1, .int (nI s))] [.int (nI 20)] S Q := by
  have hP := hc.1.1
  have hn := hP.1
  iterate 3 refine Wp.p rfl ?_
  refine Wp.i rfl (s_m_comes (t := r) hc hrow (hw.2.1.2.2.2.2.2 rfl).1 (fun b' nz => hc.2.1.e hn hs hr (e := (a, r)) (by rw [eE]; exact List.mem_singleton.mpr rfl) b' nz) (fun S2 g2 c2 a2 i2 => ?_))
  refine Wp.r rfl trivial (h S2 (s_m_goEnd hs g2 c2 (fun e he => ?_) (fun _ p hp => absurd (show p ∈ [] by rw [eA] at hp; exact hp) List.not_mem_nil)))
  rw [eE] at he
  have he : e ∈ [(a, r)] := he
  rw [List.mem_singleton] at he
  subst he
  exact i2
theorem s_m_goOn_k21 {d s : Nat} {S : mS} {Q : mQ} {P : oP} {al r : Nat → Int32} {a b c : Int32} (hw : wS 21 a b c) (hc : MI P S) (hs : s < P.1) (hr : (mO S).2.2 s = true) (hrow : ∀ v, v < 6 → S.2.2 370 v = r v) (hal : ∀ w, w < 3 → al w = S.2.2 368 w) (eE : oEg P (mO S) s = egF 21 (nI (s + 1)) a b c al r) (eA : oAd P (mO S) s = adS 21 a b al r) (l2 : le (S.2.2 368 2) 25) (h : ∀ S', mGo P s S S' → Q none S') : Wp (d + 2) n_X6_goOn 93 [(6, .int (xB 21 r b)), (5, .int (xA 21 r a)), (4, .int c), (3, .int b), (2, .int a), (0, .ref 6), (1, .int (nI s))] [.int (nI 21)] S Q := by
  have hP := hc.1.1
  have hn := hP.1
  iterate 1 refine Wp.p rfl ?_
  refine Wp.r rfl trivial (h S (s_m_goEnd hs (Gm.af Fr.rf) hc (fun e he => ?_) (fun _ p hp => absurd (show p ∈ [] by rw [eA] at hp; exact hp) List.not_mem_nil)))
  rw [eE] at he
  exact absurd (show e ∈ [] from he) List.not_mem_nil
theorem s_m_goOn_k22 {d s : Nat} {S : mS} {Q : mQ} {P : oP} {al r : Nat → Int32} {a b c : Int32} (hw : wS 22 a b c) (hc : MI P S) (hs : s < P.1) (hr : (mO S).2.2 s = true) (hrow : ∀ v, v < 6 → S.2.2 370 v = r v) (hal : ∀ w, w < 3 → al w = S.2.2 368 w) (eE : oEg P (mO S) s = egF 22 (nI (s + 1)) a b c al r) (eA : oAd P (mO S) s = adS 22 a b al r) (l2 : le (S.2.2 368 2) 25) (hk22 : tn (P.2.1 s) = 22) (ha22 : P.2.2.1 s = a) (hb22 : P.2.2.2.1 s = b) (hq366 : ∀ v, v < 6 → S.2.2 366 (6 * s + v) = r v) (h : ∀ S', mGo P s S S' → Q none S') : Wp (d + 2) n_X6_goOn 93 [(6, .int (xB 22 r b)), (5, .int (xA 22 r a)), (4, .int c), (3, .int b), (2, .int a), (0, .ref 6), (1, .int (nI s))] [.int (nI 22)] S Q := by
  have hP := hc.1.1
  have hn := hP.1
  have st : ∀ S2, Gm S S2 → MI P S2 → (∀ v, v < 6 → S2.2.2 370 v = r v) → (S2.1 269 = 0 → ∀ p ∈ oAd P (mO S) s, le p.2 (S2.2.2 368 p.1)) → Wp (d + 2) n_X6_goOn 781 [(7, .int (r (tn a) &&& MV (r (tn b)))), (8, .int (r (tn b) &&& MV (r (tn a)))), (3, .int b), (2, .int a), (0, .ref 6), (1, .int (nI s))] [] S2 Q := fun S2 g2 c2 a2 hA => by
    have la := (V6 (in_of (n := 6) (hw.2.1.1 rfl) (by decide)) (by decide))
    have lb := (V6 (in_of (n := 6) (hw.2.2.1.1 rfl) (by decide)) (by decide))
    iterate 4 refine Wp.p rfl ?_
    refine Wp.g rfl (in_of (n := 6) (hw.2.1.1 rfl) (by decide)) ?_
    iterate 5 refine Wp.p rfl ?_
    by_cases e : a = b
    · refine Wp.b rfl (fun (z : ¬ a = b) => absurd e z) (fun _ => ?_)
      iterate 4 refine Wp.p rfl ?_
      refine Wp.g rfl (in_of (n := 6) (hw.2.2.1.1 rfl) (by decide)) ?_
      iterate 1 refine Wp.p rfl ?_
      refine (s_m_go813 (S2 := sA (sA S2 370 (tn a) (r (tn a) &&& MV (r (tn b)))) 370 (tn b) ((r (tn a) &&& MV (r (tn b))) &&& (r (tn b) &&& MV (r (tn a))))) hc hs hr (g2.tr (Gm.af ((Fr.rf.a (by decide)).a (by decide)))) (c2.af ((Fr.rf.a (by decide)).a (by decide))) (t := kB r (tn a) (MV (r (tn b))) (tn b) (MV (r (tn a)))) (fun v hv => ?_) (by rw [eE]; exact List.mem_singleton.mpr rfl) (fun e he => Or.inl (by rw [eE] at he; exact List.mem_singleton.mp he)) hA h).sub (lS.mk rfl rfl (by repeat (first | exact lSub.nil | refine lSub.cons rfl ?_)))
      have := afM (i := tn b) (x := (r (tn a) &&& MV (r (tn b))) &&& (r (tn b) &&& MV (r (tn a)))) (afM (i := tn a) (x := r (tn a) &&& MV (r (tn b))) a2) v hv
      refine this.trans ?_
      rw [← e, kB_se]
    · refine Wp.b rfl (fun _ => ?_) (fun (z : ¬ ¬ a = b) => absurd e z)
      iterate 1 refine Wp.p rfl ?_
      refine Wp.g rfl (in_of (n := 6) (hw.2.2.1.1 rfl) (by decide)) ?_
      iterate 1 refine Wp.p rfl ?_
      refine (s_m_go813 (S2 := sA (sA S2 370 (tn a) (r (tn a) &&& MV (r (tn b)))) 370 (tn b) (r (tn b) &&& MV (r (tn a)))) hc hs hr (g2.tr (Gm.af ((Fr.rf.a (by decide)).a (by decide)))) (c2.af ((Fr.rf.a (by decide)).a (by decide))) (t := kB r (tn a) (MV (r (tn b))) (tn b) (MV (r (tn a)))) (fun v hv => ?_) (by rw [eE]; exact List.mem_singleton.mpr rfl) (fun e he => Or.inl (by rw [eE] at he; exact List.mem_singleton.mp he)) hA h).sub (lS.mk rfl rfl (by repeat (first | exact lSub.nil | refine lSub.cons rfl ?_)))
      have := afM (i := tn b) (x := r (tn b) &&& MV (r (tn a))) (afM (i := tn a) (x := r (tn a) &&& MV (r (tn b))) a2) v hv
      refine this.trans ?_
      rw [kB_st (fun z => e (by rw [la.2, lb.2, z]))]
  have memA : ∀ p ∈ oAd P (mO S) s, p = (2, (if sh (r (tn a)) 128 ∧ sh (r (tn b)) 256 then al 1 &&& 25 else 0)) ∨ p = (1, (if sh (r (tn a)) 256 ∧ sh (r (tn b)) 128 then al 2 &&& 31 else 0)) := fun p hp => by
    rw [eA] at hp
    have hp : p ∈ [(2, (if sh (r (tn a)) 128 ∧ sh (r (tn b)) 256 then al 1 &&& 25 else 0)), (1, (if sh (r (tn a)) 256 ∧ sh (r (tn b)) 128 then al 2 &&& 31 else 0))] := hp
    rw [List.mem_cons, List.mem_singleton] at hp
    exact hp
  have k752 : ∀ S2, Gm S S2 → MI P S2 → (∀ v, S2.2.2 366 v = S.2.2 366 v) → (∀ v, v < 6 → S2.2.2 370 v = r v) → le (if sh (r (tn a)) 128 ∧ sh (r (tn b)) 256 then al 1 &&& 25 else 0) (S2.2.2 368 2) → Wp (d + 2) n_X6_goOn 752 [(7, .int (r (tn a) &&& MV (r (tn b)))), (8, .int (r (tn b) &&& MV (r (tn a)))), (6, .int (xB 22 r b)), (5, .int (xA 22 r a)), (3, .int b), (2, .int a), (0, .ref 6), (1, .int (nI s))] [] S2 Q := fun S2 g2 c2 m2 a2 q2 => by
    have out : ¬ (sh (r (tn a)) 256 ∧ sh (r (tn b)) 128) → Wp (d + 2) n_X6_goOn 781 [(7, .int (r (tn a) &&& MV (r (tn b)))), (8, .int (r (tn b) &&& MV (r (tn a)))), (6, .int (xB 22 r b)), (5, .int (xA 22 r a)), (3, .int b), (2, .int a), (0, .ref 6), (1, .int (nI s))] [] S2 Q := fun z => by
      refine (st S2 g2 c2 a2 (fun _ p hp => ?_)).sub (lS.mk rfl rfl (by repeat (first | exact lSub.nil | refine lSub.cons rfl ?_)))
      rcases memA p hp with rfl | rfl
      · exact q2
      · rw [if_neg z]; exact le.zero
    iterate 3 refine Wp.p rfl ?_
    refine Wp.b rfl (fun (y : r (tn a) &&& 256 = 0) => ?_) (fun (y : ¬ r (tn a) &&& 256 = 0) => ?_)
    · exact out (fun z => z.1 y)
    iterate 3 refine Wp.p rfl ?_
    refine Wp.b rfl (fun (y2 : r (tn b) &&& 128 = 0) => ?_) (fun (y2 : ¬ r (tn b) &&& 128 = 0) => ?_)
    · exact out (fun z => z.2 y2)
    iterate 5 refine Wp.p rfl ?_
    refine Wp.g rfl (show vp_in 2 3 by unfold vp_in; decide) ?_
    refine (?_ : Wp (d + 2) n_X6_goOn 778 [(7, .int (r (tn a) &&& MV (r (tn b)))), (8, .int (r (tn b) &&& MV (r (tn a)))), (6, .int (xB 22 r b)), (5, .int (xA 22 r a)), (3, .int b), (2, .int a), (0, .ref 6), (1, .int (nI s))] [.int (S2.2.2 368 2), .int 1, .ref 6] S2 Q)
    have bb : BA P 1 (S2.2.2 368 2) := ba22 c2 hs (g2.2.1.2.2 s (by omega) hr) hk22 (by rw [m2, ha22]; exact hq366 _ (V6 (in_of (n := 6) (hw.2.1.1 rfl) (by decide)) (by decide)).1) (by rw [m2, hb22]; exact hq366 _ (V6 (in_of (n := 6) (hw.2.2.1.1 rfl) (by decide)) (by decide)).1) (by rw [ha22]; exact (V6 (in_of (n := 6) (hw.2.1.1 rfl) (by decide)) (by decide)).1) (by rw [hb22]; exact (V6 (in_of (n := 6) (hw.2.2.1.1 rfl) (by decide)) (by decide)).1) y y2
    refine Wp.i rfl (s_m_adds (w := 1) (x := S2.2.2 368 2) c2 (by decide) bb (fun S3 g3 c3 _ a3 i3 => ?_))
    refine (st S3 (g2.tr g3) c3 (fun v hv => (a3 v).trans (a2 v hv)) (fun z p hp => ?_)).sub (lS.mk rfl rfl (by repeat (first | exact lSub.nil | refine lSub.cons rfl ?_)))
    have z2 := (g3.2.2.1 z).1
    have e2 : S2.2.2 368 2 = al 2 := ((g2.2.2.1 z2).2.2.1 2 (by decide)).trans (hal 2 (by decide)).symm
    rcases memA p hp with rfl | rfl
    · exact q2.tr (g3.2.1.2.1 2 (by decide))
    · rw [if_pos ⟨y, y2⟩, ← e2]
      exact le.andl.tr i3
  have out : ¬ (sh (r (tn a)) 128 ∧ sh (r (tn b)) 256) → Wp (d + 2) n_X6_goOn 752 [(7, .int (r (tn a) &&& MV (r (tn b)))), (8, .int (r (tn b) &&& MV (r (tn a)))), (6, .int (xB 22 r b)), (5, .int (xA 22 r a)), (3, .int b), (2, .int a), (0, .ref 6), (1, .int (nI s))] [] S Q := fun z => by
    refine k752 S (Gm.af Fr.rf) hc (fun _ => rfl) hrow ?_
    rw [if_neg z]
    exact le.zero
  iterate 3 refine Wp.p rfl ?_
  refine Wp.i rfl (s_m_copies (x := r (tn a)) (y := r (tn b)) ?_)
  iterate 1 refine Wp.p rfl ?_
  refine (?_ : Wp (d + 2) n_X6_goOn 711 [(7, .int (r (tn a) &&& MV (r (tn b)))), (6, .int (xB 22 r b)), (5, .int (xA 22 r a)), (3, .int b), (2, .int a), (0, .ref 6), (1, .int (nI s))] [] S Q).sub (lS.mk rfl rfl (by repeat (first | exact lSub.nil | refine lSub.cons rfl ?_)))
  iterate 2 refine Wp.p rfl ?_
  refine Wp.i rfl (s_m_copies (x := r (tn b)) (y := r (tn a)) ?_)
  iterate 1 refine Wp.p rfl ?_
  refine (?_ : Wp (d + 2) n_X6_goOn 720 [(7, .int (r (tn a) &&& MV (r (tn b)))), (8, .int (r (tn b) &&& MV (r (tn a)))), (6, .int (xB 22 r b)), (5, .int (xA 22 r a)), (3, .int b), (2, .int a), (0, .ref 6), (1, .int (nI s))] [] S Q).sub (lS.mk rfl rfl (by repeat (first | exact lSub.nil | refine lSub.cons rfl ?_)))
  iterate 3 refine Wp.p rfl ?_
  refine Wp.b rfl (fun (y : r (tn a) &&& 128 = 0) => ?_) (fun (y : ¬ r (tn a) &&& 128 = 0) => ?_)
  · exact out (fun z => z.1 y)
  iterate 3 refine Wp.p rfl ?_
  refine Wp.b rfl (fun (y2 : r (tn b) &&& 256 = 0) => ?_) (fun (y2 : ¬ r (tn b) &&& 256 = 0) => ?_)
  · exact out (fun z => z.2 y2)
  iterate 5 refine Wp.p rfl ?_
  refine Wp.g rfl (show vp_in 1 3 by unfold vp_in; decide) ?_
  iterate 2 refine Wp.p rfl ?_
  refine (?_ : Wp (d + 2) n_X6_goOn 749 [(7, .int (r (tn a) &&& MV (r (tn b)))), (8, .int (r (tn b) &&& MV (r (tn a)))), (6, .int (xB 22 r b)), (5, .int (xA 22 r a)), (3, .int b), (2, .int a), (0, .ref 6), (1, .int (nI s))] [.int (S.2.2 368 1 &&& 25), .int 2, .ref 6] S Q)
  rw [← hal 1 (by decide)]
  refine Wp.i rfl (s_m_adds (w := 2) (x := al 1 &&& 25) hc (by decide) (by
    have := hc.2.1.a hn hs hr (p := (2, (if sh (r (tn a)) 128 ∧ sh (r (tn b)) 256 then al 1 &&& 25 else 0))) (by rw [eA]; exact List.mem_cons_self)
    rw [if_pos ⟨y, y2⟩] at this
    exact this) (fun S2 g2 c2 m2 a2 i2 => ?_))
  refine k752 S2 g2 c2 m2 (fun v hv => (a2 v).trans (hrow v hv)) ?_
  rw [if_pos ⟨y, y2⟩]
  exact i2
theorem s_m_goOn_k23 {d s : Nat} {S : mS} {Q : mQ} {P : oP} {al r : Nat → Int32} {a b c : Int32} (hw : wS 23 a b c) (hc : MI P S) (hs : s < P.1) (hr : (mO S).2.2 s = true) (hrow : ∀ v, v < 6 → S.2.2 370 v = r v) (hal : ∀ w, w < 3 → al w = S.2.2 368 w) (eE : oEg P (mO S) s = egF 23 (nI (s + 1)) a b c al r) (eA : oAd P (mO S) s = adS 23 a b al r) (l2 : le (S.2.2 368 2) 25) (h : ∀ S', mGo P s S S' → Q none S') : Wp (d + 2) n_X6_goOn 93 [(6, .int (xB 23 r b)), (5, .int (xA 23 r a)), (4, .int c), (3, .int b), (2, .int a), (0, .ref 6), (1, .int (nI s))] [.int (nI 23)] S Q := by
  have hP := hc.1.1
  have hn := hP.1
  iterate 1 refine Wp.p rfl ?_
  refine Wp.r rfl trivial (h S (s_m_goEnd hs (Gm.af Fr.rf) hc (fun e he => ?_) (fun _ p hp => absurd (show p ∈ [] by rw [eA] at hp; exact hp) List.not_mem_nil)))
  rw [eE] at he
  exact absurd (show e ∈ [] from he) List.not_mem_nil
