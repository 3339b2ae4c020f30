theorem cO_af {S S' : mS} (h : Fr [] [183] S S') : cO S' = cO S := by
  have f : ∀ q, S'.1 q = S.1 q := fun q => h.1 q List.not_mem_nil
  have a1 : S'.2.2 181 = S.2.2 181 := h.2.2 _ (by decide)
  have a2 : S'.2.2 182 = S.2.2 182 := h.2.2 _ (by decide)
  unfold cO
  rw [a1, a2, f]
theorem CI.row {P : oP} {S : mS} {s : Nat} (h : CI P S) (hs : s < 32) (hr : hb (S.1 84) s = true) : ∀ v, v < 6 → ¬ tR (cO S) s v = 0 := fun v hv => by
  rw [← rwS_tR v hv]
  exact (h.2.2.1 s hs hr).2 v hv
theorem CI.al {P : oP} {S : mS} (h : CI P S) : ∀ w, w < 3 → ¬ tA (cO S) w = 0 := fun w hw => by
  rw [tA_cO hw]
  exact le_m (h.2.2.2.2.1 w hw)
theorem s_O_goBothWays {d s : Nat} {S : mS} {Q : mQ} {P : oP} {K : Int32} (hc : CI P S) (hs : s < P.1) (hr : hb (S.1 84) s = true) (hrow : ∀ v, v < 6 → S.2.2 183 v = tR (cO S) s v) (va : vp_in (P.2.2.1 s) 6)
    (hE : ∀ T, oEg P T s = [(P.2.2.2.2.1 s, upd (tR T s) (tn (P.2.2.1 s)) (tR T s (tn (P.2.2.1 s)) &&& K)), (nI (s + 1), upd (tR T s) (tn (P.2.2.1 s)) (tR T s (tn (P.2.2.1 s)) &&& (K ^^^ -1)))])
    (h : ∀ S', Gr S S' → CI P S' → (¬ hb (S'.1 85) s = true → ∀ e ∈ oEg P (cO S') s, e.1 < nI P.1 → (∀ v, v < 6 → ¬ e.2 v = 0) → oIn (cO S') (tn e.1) e.2) → Q none S') : Ev (d + 2) n_X2_goBothWays [.ref 2, .int (nI s), .int K] S Q := by
  obtain ⟨hP, h125, e0, e1, e2, e3, e4⟩ := hc.1
  have hn := hP.1
  have ts : tn (nI s) = s := tn_nI (by omega)
  have is : vp_in (nI s) 32 := vp_in_nI (N := 32) (by omega) (by omega)
  have la := (V6 va (by decide)).1
  -- the end
  have fin : ∀ S2 S5, Gr S S2 → Gr S2 S5 → CI P S5 →
      (P.2.2.2.2.1 s < nI P.1 → (∀ v, v < 6 → ¬ upd (tR (cO S) s) (tn (P.2.2.1 s)) (tR (cO S) s (tn (P.2.2.1 s)) &&& K) v = 0) → oIn (cO S2) (tn (P.2.2.2.2.1 s)) (upd (tR (cO S) s) (tn (P.2.2.1 s)) (tR (cO S) s (tn (P.2.2.1 s)) &&& K))) →
      (nI (s + 1) < nI P.1 → (∀ v, v < 6 → ¬ upd (tR (cO S2) s) (tn (P.2.2.1 s)) (tR (cO S2) s (tn (P.2.2.1 s)) &&& (K ^^^ -1)) v = 0) → oIn (cO S5) (tn (nI (s + 1))) (upd (tR (cO S2) s) (tn (P.2.2.1 s)) (tR (cO S2) s (tn (P.2.2.1 s)) &&& (K ^^^ -1)))) → Q none S5 := fun S2 S5 g2 g5 c5 i1 i2 => by
    refine h S5 (g2.tr g5) c5 (fun z e he b1 nz => ?_)
    have r5 := ((g2.tr g5).same (by omega) hr z).1
    have r2 := (g2.same (by omega) hr (fun y => z (g5.2.2.1 s y))).1
    have tg := oEg_tg hP hs e he b1
    rw [hE, List.mem_cons, List.mem_singleton] at he
    rcases he with rfl | rfl
    · rw [r5] at nz ⊢
      exact (i1 b1 nz).up g5.2.1 (Nat.lt_of_lt_of_le tg.2 hn)
    · rw [r5, ← r2] at nz ⊢
      exact i2 b1 nz
  have k32 : ∀ S2, Gr S S2 → CI P S2 → (P.2.2.2.2.1 s < nI P.1 → (∀ v, v < 6 → ¬ upd (tR (cO S) s) (tn (P.2.2.1 s)) (tR (cO S) s (tn (P.2.2.1 s)) &&& K) v = 0) → oIn (cO S2) (tn (P.2.2.2.2.1 s)) (upd (tR (cO S) s) (tn (P.2.2.1 s)) (tR (cO S) s (tn (P.2.2.1 s)) &&& K))) → Wp (d + 2) n_X2_goBothWays 32 [(3, .int (P.2.2.1 s)), (0, .ref 2), (1, .int (nI s)), (2, .int K)] [] S2 Q := fun S2 g2 c2 i1 => by
    have hr2 := g2.2.1.2.2 s (by omega) hr
    iterate 2 refine Wp.p rfl ?_
    refine Wp.i rfl (s_O_begin (by omega) (fun S3 f3 b3 => ?_))
    have e3' : cO S3 = cO S2 := cO_af f3
    have b3' : ∀ v, v < 6 → S3.2.2 183 v = tR (cO S2) s v := fun v hv => by rw [b3 v hv]; exact rwS_tR v hv
    iterate 5 refine Wp.p rfl ?_
    refine Wp.i rfl (s_O_keepR (x := K ^^^ -1) va b3' (fun z => ?_) (fun z => ?_))
    · refine Wp.b rfl (fun (e : (1 : Int32) = 0) => absurd e (by decide)) (fun _ => ?_)
      iterate 4 refine Wp.p rfl ?_
      refine (?_ : Wp (d + 2) n_X2_goBothWays 52 [(3, .int (P.2.2.1 s)), (0, .ref 2), (1, .int (nI s)), (2, .int K)] [.int (nI s + 1), .ref 2] (sA S3 183 (tn (P.2.2.1 s)) (tR (cO S2) s (tn (P.2.2.1 s)) &&& (K ^^^ -1))) Q)
      rw [nI_1]
      have f4 : Fr [] [183] S2 (sA S3 183 (tn (P.2.2.1 s)) (tR (cO S2) s (tn (P.2.2.1 s)) &&& (K ^^^ -1))) := f3.a (by decide)
      have nz := nzU (i := tn (P.2.2.1 s)) (c2.row (by omega) hr2) z
      refine Wp.i rfl (s_O_goTo (c2.af f4) (afU b3') nz (fun _ b => ?_) (fun S5 g5 c5 _ i5 => ?_))
      · exact c2.2.1.e hn hs hr2 (e := (nI (s + 1), upd (tR (cO S2) s) (tn (P.2.2.1 s)) (tR (cO S2) s (tn (P.2.2.1 s)) &&& (K ^^^ -1)))) (by rw [hE]; exact List.mem_cons_of_mem _ (List.mem_singleton.mpr rfl)) b nz
      · refine Wp.r rfl trivial (fin S2 S5 g2 ((Gr.af f4).tr g5) c5 i1 (fun b _ => i5 (nI_pos' (by omega)) b))
    · refine Wp.b rfl (fun _ => ?_) (fun (e : ¬ (0 : Int32) = 0) => absurd rfl e)
      have f4 : Fr [] [183] S2 (sA S3 183 (tn (P.2.2.1 s)) (tR (cO S2) s (tn (P.2.2.1 s)) &&& (K ^^^ -1))) := f3.a (by decide)
      exact Wp.r rfl trivial (fin S2 _ g2 (Gr.af f4) (c2.af f4) i1 (fun _ nz => absurd (upd_at.trans z) (nz _ la)))
  iterate 4 refine Wp.p rfl ?_
  refine Wp.g rfl is ?_
  iterate 4 refine Wp.p rfl ?_
  refine (?_ : Wp (d + 2) n_X2_goBothWays 13 [(3, .int (S.2.2 221 (tn (nI s)))), (0, .ref 2), (1, .int (nI s)), (2, .int K)] [.int K, .int (S.2.2 221 (tn (nI s))), .ref 2] S Q)
  rw [ts, e1]
  refine Wp.i rfl (s_O_keepR (x := K) va hrow (fun z => ?_) (fun z => ?_))
  · refine Wp.b rfl (fun (e : (1 : Int32) = 0) => absurd e (by decide)) (fun _ => ?_)
    iterate 5 refine Wp.p rfl ?_
    refine Wp.g rfl is ?_
    refine (?_ : Wp (d + 2) n_X2_goBothWays 29 [(3, .int (P.2.2.1 s)), (0, .ref 2), (1, .int (nI s)), (2, .int K)] [.int (S.2.2 223 (tn (nI s))), .ref 2] (sA S 183 (tn (P.2.2.1 s)) (tR (cO S) s (tn (P.2.2.1 s)) &&& K)) Q)
    rw [ts, e3]
    have f4 : Fr [] [183] S (sA S 183 (tn (P.2.2.1 s)) (tR (cO S) s (tn (P.2.2.1 s)) &&& K)) := Fr.rf.a (by decide)
    have nz := nzU (i := tn (P.2.2.1 s)) (hc.row (by omega) hr) z
    refine Wp.i rfl (s_O_goTo (hc.af f4) (afU hrow) nz (fun _ b => ?_) (fun S5 g5 c5 _ i5 => ?_))
    · exact hc.2.1.e hn hs hr (e := (P.2.2.2.2.1 s, upd (tR (cO S) s) (tn (P.2.2.1 s)) (tR (cO S) s (tn (P.2.2.1 s)) &&& K))) (by rw [hE]; exact List.mem_cons_self) b nz
    · refine k32 S5 ((Gr.af f4).tr g5) c5 (fun b _ => i5 ?_ b)
      exact (oEg_tg hP hs (P.2.2.2.2.1 s, upd (tR (cO S) s) (tn (P.2.2.1 s)) (tR (cO S) s (tn (P.2.2.1 s)) &&& K)) (by rw [hE]; exact List.mem_cons_self) b).1
  · refine Wp.b rfl (fun _ => ?_) (fun (e : ¬ (0 : Int32) = 0) => absurd rfl e)
    have f4 : Fr [] [183] S (sA S 183 (tn (P.2.2.1 s)) (tR (cO S) s (tn (P.2.2.1 s)) &&& K)) := Fr.rf.a (by decide)
    exact k32 _ (Gr.af f4) (hc.af f4) (fun _ nz => absurd (upd_at.trans z) (nz _ la))
theorem s_O_goOn {d s : Nat} {S : mS} {Q : mQ} {P : oP} (hc : CI P S) (hs : s < P.1) (hr : hb (S.1 84) s = true) (hrow : ∀ v, v < 6 → S.2.2 183 v = tR (cO S) s v)
    (h : ∀ S', Gr S S' → CI P S' → (¬ hb (S'.1 85) s = true → ∀ e ∈ oEg P (cO S') s, e.1 < nI P.1 → (∀ v, v < 6 → ¬ e.2 v = 0) → oIn (cO S') (tn e.1) e.2) → Q none S') : Ev (d + 3) n_X2_goOn [.ref 2, .int (nI s), .int (P.2.1 s), .int (P.2.2.1 s), .int (P.2.2.2.1 s), .int (P.2.2.2.2.1 s)] S Q := by
  have hP := hc.1.1
  have hn := hP.1
  obtain ⟨⟨k, hk, hw⟩, -⟩ := hP.2 s hs
  have hk24 := hw.1
  have tk : tn (P.2.1 s) = k := by rw [hk]; exact tn_nI (by omega)
  have hnz := hc.row (s := s) (by omega) hr
  have haz := hc.al
  have hal : ∀ w, w < 3 → tA (cO S) w = S.2.2 182 w := fun w hw => tA_cO hw
  have eE : ∀ T, oEg P T s = egF k (nI (s + 1)) (P.2.2.1 s) (P.2.2.2.1 s) (P.2.2.2.2.1 s) (tA T) (tR T s) := fun T => by
    unfold oEg
    rw [tk]
  have same : ∀ S', Gr S S' → ¬ hb (S'.1 85) s = true → oEg P (cO S') s = oEg P (cO S) s := fun S' g z => by
    obtain ⟨r1, r2⟩ := g.same (by omega) hr z
    unfold oEg
    rw [r1, r2]
  have p1 : ∀ S1 t, Fr [] [183] S S1 → (∀ v, v < 6 → S1.2.2 183 v = t v) → (∀ v, v < 6 → ¬ t v = 0) → egF k (nI (s + 1)) (P.2.2.1 s) (P.2.2.2.1 s) (P.2.2.2.2.1 s) (tA (cO S)) (tR (cO S) s) = [(nI (s + 1), t)] → Wp (d + 3) n_X2_goOn 156 [(0, .ref 2), (1, .int (nI s)), (2, .int (nI k)), (3, .int (P.2.2.1 s)), (4, .int (P.2.2.2.1 s)), (5, .int (P.2.2.2.2.1 s))] [.int 1] S1 Q := fun S1 t f1 b1 nz eq => by
    refine Wp.b rfl (fun (e : (1 : Int32) = 0) => absurd e (by decide)) (fun _ => ?_)
    iterate 4 refine Wp.p rfl ?_
    refine (?_ : Wp (d + 3) n_X2_goOn 163 [(0, .ref 2), (1, .int (nI s)), (2, .int (nI k)), (3, .int (P.2.2.1 s)), (4, .int (P.2.2.2.1 s)), (5, .int (P.2.2.2.2.1 s))] [.int (nI s + 1), .ref 2] S1 Q)
    rw [nI_1]
    refine Wp.i rfl (s_O_goTo (hc.af f1) b1 nz (fun _ b => ?_) (fun S5 g5 c5 _ i5 => ?_))
    · exact hc.2.1.e hn hs hr (e := (nI (s + 1), t)) (by rw [eE, eq]; exact List.mem_singleton.mpr rfl) b nz
    · refine Wp.r rfl trivial (h S5 ((Gr.af f1).tr g5) c5 (fun z e he b _ => ?_))
      rw [same S5 ((Gr.af f1).tr g5) z, eE, eq, List.mem_singleton] at he
      subst he
      exact i5 (nI_pos' (by omega)) b
  have p0 : ∀ S1, Fr [] [183] S S1 → (∀ e ∈ egF k (nI (s + 1)) (P.2.2.1 s) (P.2.2.2.1 s) (P.2.2.2.2.1 s) (tA (cO S)) (tR (cO S) s), ∃ v, v < 6 ∧ e.2 v = 0) → Wp (d + 3) n_X2_goOn 156 [(0, .ref 2), (1, .int (nI s)), (2, .int (nI k)), (3, .int (P.2.2.1 s)), (4, .int (P.2.2.2.1 s)), (5, .int (P.2.2.2.2.1 s))] [.int 0] S1 Q := fun S1 f1 eq => by
    refine Wp.b rfl (fun _ => ?_) (fun (e : ¬ (0 : Int32) = 0) => absurd rfl e)
    refine Wp.r rfl trivial (h S1 (Gr.af f1) (hc.af f1) (fun z e he b nz => ?_))
    rw [same S1 (Gr.af f1) z, eE] at he
    obtain ⟨v, hv, y⟩ := eq e he
    exact absurd y (nz v hv)
  have none' : egF k (nI (s + 1)) (P.2.2.1 s) (P.2.2.2.1 s) (P.2.2.2.2.1 s) (tA (cO S)) (tR (cO S) s) = [] → Q none S := fun eq => h S (Gr.af Fr.rf) hc (fun z e he b nz => by
    rw [eE, eq] at he
    cases he)
  rw [hk]
  have cases24 : k = 0 ∨ k = 1 ∨ k = 2 ∨ k = 3 ∨ k = 4 ∨ k = 5 ∨ k = 6 ∨ k = 7 ∨ k = 8 ∨ k = 9 ∨ k = 10 ∨ k = 11 ∨ k = 12 ∨ k = 13 ∨ k = 14 ∨ k = 15 ∨ k = 16 ∨ k = 17 ∨ k = 18 ∨ k = 19 ∨ k = 20 ∨ k = 21 ∨ k = 22 ∨ k = 23 := by omega
  rcases cases24 with rfl | rfl | rfl | rfl | rfl | rfl | rfl | rfl | rfl | rfl | rfl | rfl | rfl | rfl | rfl | rfl | rfl | rfl | rfl | rfl | rfl | rfl | rfl | rfl
  · iterate 7 refine Wp.p rfl ?_
    refine Wp.i rfl (Wp.p rfl (s_O_pass_k0 (nx := nI (s + 1)) hw hrow hnz hal haz p1 p0))
  · iterate 7 refine Wp.p rfl ?_
    refine Wp.i rfl (Wp.p rfl (s_O_pass_k1 (nx := nI (s + 1)) hw hrow hnz hal haz p1 p0))
  · iterate 7 refine Wp.p rfl ?_
    refine Wp.i rfl (Wp.p rfl (s_O_pass_k2 (nx := nI (s + 1)) hw hrow hnz hal haz p1 p0))
  · iterate 7 refine Wp.p rfl ?_
    refine Wp.i rfl (Wp.p rfl (s_O_pass_k3 (nx := nI (s + 1)) hw hrow hnz hal haz p1 p0))
  · iterate 6 refine Wp.p rfl ?_
    refine Wp.g rfl (in_of (n := 11) (hw.2.2.1.2.2.2.2.1 rfl) (by decide)) ?_
    refine Wp.i rfl (s_O_goBothWays (K := m_sv 500 (tn (P.2.2.2.1 s))) hc hs hr hrow (in_of (n := 6) (hw.2.1.1 rfl) (by decide)) eE (fun S5 g5 c5 i5 => ?_))
    iterate 1 refine Wp.p rfl ?_
    exact Wp.r rfl trivial (h S5 g5 c5 i5)
  · iterate 5 refine Wp.p rfl ?_
    refine Wp.i rfl (s_O_goBothWays (K := 1) hc hs hr hrow (in_of (n := 6) (hw.2.1.1 rfl) (by decide)) eE (fun S5 g5 c5 i5 => ?_))
    iterate 1 refine Wp.p rfl ?_
    exact Wp.r rfl trivial (h S5 g5 c5 i5)
  · iterate 7 refine Wp.p rfl ?_
    refine Wp.i rfl (Wp.p rfl (s_O_pass_k6 (nx := nI (s + 1)) hw hrow hnz hal haz p1 p0))
  · iterate 7 refine Wp.p rfl ?_
    refine Wp.i rfl (Wp.p rfl (s_O_pass_k7 (nx := nI (s + 1)) hw hrow hnz hal haz p1 p0))
  · iterate 7 refine Wp.p rfl ?_
    refine Wp.i rfl (Wp.p rfl (s_O_pass_k8 (nx := nI (s + 1)) hw hrow hnz hal haz p1 p0))
  · iterate 7 refine Wp.p rfl ?_
    refine Wp.i rfl (Wp.p rfl (s_O_pass_k9 (nx := nI (s + 1)) hw hrow hnz hal haz p1 p0))
  · iterate 7 refine Wp.p rfl ?_
    refine Wp.i rfl (Wp.p rfl (s_O_pass_k10 (nx := nI (s + 1)) hw hrow hnz hal haz p1 p0))
  · iterate 7 refine Wp.p rfl ?_
    refine Wp.i rfl (Wp.p rfl (s_O_pass_k11 (nx := nI (s + 1)) hw hrow hnz hal haz p1 p0))
  · iterate 7 refine Wp.p rfl ?_
    refine Wp.i rfl (Wp.p rfl (s_O_pass_k12 (nx := nI (s + 1)) hw hrow hnz hal haz p1 p0))
  · iterate 7 refine Wp.p rfl ?_
    refine Wp.i rfl (Wp.p rfl (s_O_pass_k13 (nx := nI (s + 1)) hw hrow hnz hal haz p1 p0))
  · iterate 7 refine Wp.p rfl ?_
    refine Wp.i rfl (Wp.p rfl (s_O_pass_k14 (nx := nI (s + 1)) hw hrow hnz hal haz p1 p0))
  · iterate 7 refine Wp.p rfl ?_
    refine Wp.i rfl (Wp.p rfl (s_O_pass_k15 (nx := nI (s + 1)) hw hrow hnz hal haz p1 p0))
  · iterate 7 refine Wp.p rfl ?_
    refine Wp.i rfl (Wp.p rfl (s_O_pass_k16 (nx := nI (s + 1)) hw hrow hnz hal haz p1 p0))
  · iterate 7 refine Wp.p rfl ?_
    refine Wp.i rfl (Wp.p rfl (s_O_pass_k17 (nx := nI (s + 1)) hw hrow hnz hal haz p1 p0))
  · iterate 7 refine Wp.p rfl ?_
    refine Wp.i rfl (Wp.p rfl (s_O_pass_k18 (nx := nI (s + 1)) hw hrow hnz hal haz p1 p0))
  · iterate 4 refine Wp.p rfl ?_
    refine Wp.i rfl (s_O_goTo hc hrow hnz (fun _ b => ?_) (fun S5 g5 c5 a5 i5 => ?_))
    · exact hc.2.1.e hn hs hr (e := (P.2.2.2.2.1 s, tR (cO S) s)) (by rw [eE]; exact List.mem_cons_self) b hnz
    · iterate 4 refine Wp.p rfl ?_
      refine (?_ : Wp (d + 3) n_X2_goOn 129 [(0, .ref 2), (1, .int (nI s)), (2, .int (nI 19)), (3, .int (P.2.2.1 s)), (4, .int (P.2.2.2.1 s)), (5, .int (P.2.2.2.2.1 s))] [.int (nI s + 1), .ref 2] S5 Q)
      rw [nI_1]
      refine Wp.i rfl (s_O_goTo c5 (fun v hv => (a5 v).trans (hrow v hv)) hnz (fun _ b => ?_) (fun S6 g6 c6 a6 i6 => ?_))
      · exact hc.2.1.e hn hs hr (e := (nI (s + 1), tR (cO S) s)) (by rw [eE]; exact List.mem_cons_of_mem _ (List.mem_singleton.mpr rfl)) b hnz
      · iterate 1 refine Wp.p rfl ?_
        refine Wp.r rfl trivial (h S6 (g5.tr g6) c6 (fun z e he b _ => ?_))
        have tg := oEg_tg hP hs e he b
        rw [same S6 (g5.tr g6) z, eE] at he
        have he2 : e ∈ [(P.2.2.2.2.1 s, tR (cO S) s), (nI (s + 1), tR (cO S) s)] := he
        rw [List.mem_cons, List.mem_singleton] at he2
        rcases he2 with rfl | rfl
        · exact (i5 tg.1 b).up g6.2.1 (Nat.lt_of_lt_of_le tg.2 hn)
        · exact i6 tg.1 b
  · iterate 4 refine Wp.p rfl ?_
    refine Wp.i rfl (s_O_goTo hc hrow hnz (fun _ b => ?_) (fun S5 g5 c5 a5 i5 => ?_))
    · exact hc.2.1.e hn hs hr (e := (P.2.2.1 s, tR (cO S) s)) (by rw [eE]; exact List.mem_singleton.mpr rfl) b hnz
    · iterate 1 refine Wp.p rfl ?_
      refine Wp.r rfl trivial (h S5 g5 c5 (fun z e he b _ => ?_))
      have tg := oEg_tg hP hs e he b
      rw [same S5 g5 z, eE] at he
      have he2 : e ∈ [(P.2.2.1 s, tR (cO S) s)] := he
      rw [List.mem_singleton] at he2
      subst he2
      exact i5 tg.1 b
  · iterate 3 refine Wp.p rfl ?_
    exact Wp.r rfl trivial (none' rfl)
  · iterate 7 refine Wp.p rfl ?_
    refine Wp.i rfl (Wp.p rfl (s_O_pass_k22 (nx := nI (s + 1)) hw hrow hnz hal haz p1 p0))
  · iterate 3 refine Wp.p rfl ?_
    exact Wp.r rfl trivial (none' rfl)
theorem s_O_lookAt {d s : Nat} {S : mS} {Q : mQ} {P : oP} (hc : CI P S) (hs : s < P.1) (hr : hb (S.1 84) s = true)
    (h : ∀ S', Gr S S' → CI P S' → (¬ hb (S'.1 85) s = true → Cons P (cO S') s) → Q none S') : Ev (d + 5) n_X2_lookAt [.ref 2, .int (nI s)] S Q := by
  have hP := hc.1.1
  have hn := hP.1
  have ts : tn (nI s) = s := tn_nI (by omega)
  have is : vp_in (nI s) 32 := vp_in_nI (N := 32) (by omega) (by omega)
  have hph := (hP.2 s hs).2
  iterate 2 refine Wp.p rfl ?_
  refine Wp.i rfl (s_O_store hc hs hr (fun S1 g1 c1 l1 => ?_))
  have hr1 := g1.2.1.2.2 s (by omega) hr
  have k31 : ∀ S3, Gr S1 S3 → CI P S3 → (0 ≤ P.2.2.2.2.2 s → P.2.2.2.2.2 s < nI P.1 → ¬ oFt P (cO S1) s = 0 → oIn (cO S3) (tn (P.2.2.2.2.2 s)) (tR (cO S1) s)) → Wp (d + 5) n_X2_lookAt 31 [(0, .ref 2), (1, .int (nI s))] [] S3 Q := fun S3 g3 c3 i3 => by
    have hr3 := g3.2.1.2.2 s (by omega) hr1
    iterate 2 refine Wp.p rfl ?_
    refine Wp.i rfl (s_O_begin (by omega) (fun S4 f4 b4 => ?_))
    have c4 := c3.af f4
    have e4' : cO S4 = cO S3 := cO_af f4
    have hr4 : hb (S4.1 84) s = true := by rw [f4.1 84 List.not_mem_nil]; exact hr3
    obtain ⟨-, h125, e0, e1, e2, e3, e4⟩ := c4.1
    have b4' : ∀ v, v < 6 → S4.2.2 183 v = tR (cO S4) s v := fun v hv => by rw [b4 v hv, e4']; exact rwS_tR v hv
    iterate 6 refine Wp.p rfl ?_
    refine Wp.g rfl is ?_
    iterate 4 refine Wp.p rfl ?_
    refine Wp.g rfl is ?_
    iterate 4 refine Wp.p rfl ?_
    refine Wp.g rfl is ?_
    iterate 4 refine Wp.p rfl ?_
    refine Wp.g rfl is ?_
    refine (?_ : Wp (d + 5) n_X2_lookAt 74 [(0, .ref 2), (1, .int (nI s))] [.int (S4.2.2 223 (tn (nI s))), .int (S4.2.2 222 (tn (nI s))), .int (S4.2.2 221 (tn (nI s))), .int (S4.2.2 220 (tn (nI s))), .int (nI s), .ref 2] S4 Q)
    rw [ts, e0, e1, e2, e3]
    refine Wp.i rfl (s_O_goOn c4 hs hr4 b4' (fun S5 g5 c5 i5 => ?_))
    have g35 : Gr S3 S5 := (Gr.af f4).tr g5
    have g15 := g3.tr g35
    refine Wp.r rfl trivial (h S5 (g1.tr g15) c5 (fun z => ⟨i5 z, fun p hp => ?_, fun b1 b2 b3 => ?_⟩))
    · obtain ⟨r1, r2⟩ := g15.same (by omega) hr1 z
      have : oAd P (cO S5) s = oAd P (cO S1) s := by unfold oAd; rw [r1, r2]
      have p3 := oAd_tg p hp
      rw [this] at hp
      exact (l1 (fun y => z (g15.2.2.1 s y)) p hp).tr (g15.2.1.2.1 _ p3)
    · obtain ⟨r1, r2⟩ := g15.same (by omega) hr1 z
      have : oFt P (cO S5) s = oFt P (cO S1) s := by unfold oFt; rw [r1, r2]
      rw [this] at b3
      rw [r1]
      refine (i3 b1 b2 b3).up g35.2.1 ?_
      obtain ⟨i, hi0, e⟩ := nI_of (Int32.not_lt.mpr b1)
      rw [e] at b2 ⊢
      have := (nI_ltI hi0 (by omega)).mp b2
      rw [tn_nI hi0]
      omega
  iterate 2 refine Wp.p rfl ?_
  refine Wp.i rfl (s_O_faultsOf c1.1 hs ?_)
  refine Wp.b rfl (fun (z : oFt P (cO S1) s = 0) => ?_) (fun (z : ¬ oFt P (cO S1) s = 0) => ?_)
  · exact k31 S1 (Gr.af Fr.rf) c1 (fun _ _ y => absurd z y)
  · iterate 2 refine Wp.p rfl ?_
    refine Wp.i rfl (s_O_begin (by omega) (fun S2 f2 b2 => ?_))
    have c2 := c1.af f2
    have e2' : cO S2 = cO S1 := cO_af f2
    have b2' : ∀ v, v < 6 → S2.2.2 183 v = tR (cO S1) s v := fun v hv => by rw [b2 v hv]; exact rwS_tR v hv
    have e4 := c2.1.2.2.2.2.2.2
    iterate 5 refine Wp.p rfl ?_
    refine Wp.g rfl is ?_
    refine (?_ : Wp (d + 5) n_X2_lookAt 28 [(0, .ref 2), (1, .int (nI s))] [.int (S2.2.2 224 (tn (nI s))), .ref 2] S2 Q)
    rw [ts, e4]
    refine Wp.i rfl (s_O_goTo c2 b2' (c1.row (by omega) hr1) (fun b1 b2 => ?_) (fun S3 g3 c3 a3 i3 => ?_))
    · exact c1.2.1.h hn hs hr1 b1 b2 z
    · exact k31 S3 ((Gr.af f2).tr g3) c3 (fun b1 b2 _ => i3 b1 b2)
