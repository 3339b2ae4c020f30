abbrev cFS : List Nat := [5, 45, 46, 47, 48, 49, 50, 51, 162]
abbrev cAS : List Nat := [143, 144, 100, 101, 102, 103, 104, 260, 261]
/-- behind a step -/
def cN (S S' : mS) (m' : mM) (nx mn st en fb ft : Int32) (sn hd : Nat → Int32) : Prop := Fr cFS cAS S S' ∧ cV S' = m' ∧ S'.1 45 = nx ∧ S'.1 46 = S.1 46 + 1 ∧ S'.1 47 = mn ∧ S'.1 48 = st ∧ S'.1 49 = en ∧ S'.1 50 = fb ∧ S'.1 51 = ft ∧ S'.1 162 = S.1 162 + 1 ∧ S'.2.2 260 = sn ∧ S'.2.2 261 = hd
set_option maxHeartbeats 1000000 in
theorem s_M_takeStep {d k0 n i k many : Nat} {S : mS} {Q : mQ} (hW : WFk k0 (cV S)) (hP : cP S n) (hi : i < n) (hk : S.2.2 220 i = nI k) (hw : wS k (S.2.2 221 i) (S.2.2 222 i) (S.2.2 223 i)) (hm : S.1 47 = nI many) (hm2 : many < 100)
    (h0 : (doS (cV S) k (S.2.2 221 i) (S.2.2 222 i) (S.2.2 223 i)).1 = 0 → ∀ S', cN S S' (doS (cV S) k (S.2.2 221 i) (S.2.2 222 i) (S.2.2 223 i)).2 (nxS (cV S) k (S.2.2 221 i) (S.2.2 222 i) (S.2.2 223 i) (nI i + 1)) (nI many) (if k = 23 then 0 else S.1 48) (if k = 23 then gN (cV S) (tn (S.2.2 221 i)) else S.1 49) (S.1 50) (S.1 51) (ntF (S.2.2 260) (cV S) i 6) (S.2.2 261) → Q none S')
    (h2 : ¬ (doS (cV S) k (S.2.2 221 i) (S.2.2 222 i) (S.2.2 223 i)).1 = 0 → 8 ≤ many → ∀ S', cN S S' (doS (cV S) k (S.2.2 221 i) (S.2.2 222 i) (S.2.2 223 i)).2 (S'.1 45) (nI (many + 1)) 2 (S.1 49) (S.1 50) (S.1 51) (ntF (S.2.2 260) (cV S) i 6) (upd (S.2.2 261) i (S.2.2 261 i ||| 1 <<< ((doS (cV S) k (S.2.2 221 i) (S.2.2 222 i) (S.2.2 223 i)).1 &&& 31))) → Q none S')
    (h1 : ¬ (doS (cV S) k (S.2.2 221 i) (S.2.2 222 i) (S.2.2 223 i)).1 = 0 → ¬ 8 ≤ many → S.2.2 224 i < 0 → ∀ S', cN S S' (doS (cV S) k (S.2.2 221 i) (S.2.2 222 i) (S.2.2 223 i)).2 (S'.1 45) (nI (many + 1)) 1 (S.1 49) (doS (cV S) k (S.2.2 221 i) (S.2.2 222 i) (S.2.2 223 i)).1 (nI i) (ntF (S.2.2 260) (cV S) i 6) (upd (S.2.2 261) i (S.2.2 261 i ||| 1 <<< ((doS (cV S) k (S.2.2 221 i) (S.2.2 222 i) (S.2.2 223 i)).1 &&& 31))) → Q none S')
    (h3 : ¬ (doS (cV S) k (S.2.2 221 i) (S.2.2 222 i) (S.2.2 223 i)).1 = 0 → ¬ 8 ≤ many → ¬ S.2.2 224 i < 0 → ∀ S', cN S S' (stN (doS (cV S) k (S.2.2 221 i) (S.2.2 222 i) (S.2.2 223 i)).2 2 (doS (cV S) k (S.2.2 221 i) (S.2.2 222 i) (S.2.2 223 i)).1) (S.2.2 224 i) (nI (many + 1)) (S.1 48) (S.1 49) (S.1 50) (S.1 51) (ntF (S.2.2 260) (cV S) i 6) (upd (S.2.2 261) i (S.2.2 261 i ||| 1 <<< ((doS (cV S) k (S.2.2 221 i) (S.2.2 222 i) (S.2.2 223 i)).1 &&& 31))) → Q none S') :
    Ev (d + 5) n_X1_takeStep [.ref 1, .int (nI i)] S Q := by
  have hn := hP.2.1
  have ti : (nI i).toNatClampNeg = i := nI_clamp (by omega)
  have hin : vp_in (nI i) 32 := vp_in_nI (by omega) (by omega)
  iterate 2 refine Wp.p rfl ?_
  refine s_M_noteLoop (d := d + 3) (m := cV S) (by omega) S hW (fun S1 hF1 h260 => ?_) 6 0 S (by omega) Fr.rf rfl
  have a1 : ∀ q, q ∉ [260] → S1.2.2 q = S.2.2 q := hF1.2.2
  have f1 : ∀ q, S1.1 q = S.1 q := fun q => hF1.1 q (by simp)
  repeat refine Wp.p rfl ?_
  refine Wp.i rfl (s_W_noteStep ?_)
  repeat refine Wp.p rfl ?_
  refine Wp.g rfl hin ?_
  repeat refine Wp.p rfl ?_
  refine Wp.g rfl hin ?_
  repeat refine Wp.p rfl ?_
  refine Wp.g rfl hin ?_
  repeat refine Wp.p rfl ?_
  refine Wp.g rfl hin ?_
  refine Wp.i rfl ?_
  obtain ⟨S2, e2⟩ : ∃ S2 : mS, S2 = sF (sF (sF S1 162 (S1.1 162 + 1)) 46 (S1.1 46 + 1)) 45 (nI i + 1) := ⟨_, rfl⟩
  have b1 : ∀ q, q ∉ [260] → S2.2.2 q = S.2.2 q := fun q hq => by rw [e2]; exact a1 q hq
  have g45 : S2.1 45 = nI i + 1 := by rw [e2]; rfl
  have g46 : S2.1 46 = S.1 46 + 1 := by rw [e2]; show S1.1 46 + 1 = _; rw [f1]
  have g162 : S2.1 162 = S.1 162 + 1 := by rw [e2]; show S1.1 162 + 1 = _; rw [f1]
  have g260 : S2.2.2 260 = ntF (S.2.2 260) (cV S) i 6 := by rw [e2]; exact h260
  have gF : Fr cFS cAS S S2 := by
    rw [e2]
    exact (((hF1.up (fs' := cFS) (as' := cAS) (by decide) (by decide)).f (by decide)).f (by decide)).f (by decide)
  have go : ∀ q, q ∉ [45, 46, 162] → S2.1 q = S.1 q := fun q hq => by
    rw [e2]
    simp only [List.mem_cons, List.not_mem_nil, or_false, not_or] at hq
    show upd (upd (upd S1.1 162 _) 46 _) 45 _ q = S.1 q
    rw [show upd (upd (upd S1.1 162 (S1.1 162 + 1)) 46 (S1.1 46 + 1)) 45 (nI i + 1) q = upd (upd S1.1 162 (S1.1 162 + 1)) 46 (S1.1 46 + 1) q from if_neg hq.1, show upd (upd S1.1 162 (S1.1 162 + 1)) 46 (S1.1 46 + 1) q = upd S1.1 162 (S1.1 162 + 1) q from if_neg hq.2.1, show upd S1.1 162 (S1.1 162 + 1) q = S1.1 q from if_neg hq.2.2]
    exact f1 q
  have ecv : cV S2 = cV S := by
    unfold cV
    rw [b1 143 (by decide), b1 144 (by decide), b1 100 (by decide), b1 101 (by decide), b1 102 (by decide), b1 103 (by decide), b1 104 (by decide), go 5 (by decide)]
  show Ev (d + 4) n_X1_perform [.ref 1, .int (S1.2.2 220 (nI i).toNatClampNeg), .int (S1.2.2 221 (nI i).toNatClampNeg), .int (S1.2.2 222 (nI i).toNatClampNeg), .int (S1.2.2 223 (nI i).toNatClampNeg)] (sF (sF (sF S1 162 (S1.1 162 + 1)) 46 (S1.1 46 + 1)) 45 (nI i + 1)) _
  rw [← e2, ti, a1 220 (by decide), a1 221 (by decide), a1 222 (by decide), a1 223 (by decide), hk]
  refine s_perform (k0 := k0) (by rw [ecv]; exact hW) hw ?_
  intro S3 hF3 c3 n3 s3 en3
  rw [ecv] at c3 n3 en3 ⊢
  rw [g45] at n3
  rw [go 48 (by decide)] at s3
  rw [go 49 (by decide)] at en3
  have F3 : Fr cFS cAS S S3 := gF.tr (hF3.up (by decide) (by decide))
  have k46 : S3.1 46 = S.1 46 + 1 := (hF3.1 46 (by decide)).trans g46
  have k47 : S3.1 47 = nI many := (hF3.1 47 (by decide)).trans ((go 47 (by decide)).trans hm)
  have k50 : S3.1 50 = S.1 50 := (hF3.1 50 (by decide)).trans (go 50 (by decide))
  have k51 : S3.1 51 = S.1 51 := (hF3.1 51 (by decide)).trans (go 51 (by decide))
  have k162 : S3.1 162 = S.1 162 + 1 := (hF3.1 162 (by decide)).trans g162
  have k260 : S3.2.2 260 = ntF (S.2.2 260) (cV S) i 6 := (hF3.2.2 260 (by decide)).trans g260
  have k261 : S3.2.2 261 = S.2.2 261 := (hF3.2.2 261 (by decide)).trans (b1 261 (by decide))
  have k224 : S3.2.2 224 = S.2.2 224 := (hF3.2.2 224 (by decide)).trans (b1 224 (by decide))
  repeat refine Wp.p rfl ?_
  refine Wp.b rfl (fun (c : (doS (cV S) k (S.2.2 221 i) (S.2.2 222 i) (S.2.2 223 i)).1 = 0) => ?_) (fun (c : ¬ (doS (cV S) k (S.2.2 221 i) (S.2.2 222 i) (S.2.2 223 i)).1 = 0) => ?_)
  · exact Wp.r rfl trivial (h0 c S3 ⟨F3, c3, n3, k46, k47, s3, en3, k50, k51, k162, k260, k261⟩)
  · have hk23 : ¬ k = 23 := fun e => c (by rw [e]; rfl)
    rw [if_neg hk23] at s3 en3
    repeat refine Wp.p rfl ?_
    refine Wp.i rfl (s_M_meetFault (by omega) k47 hm2 (fun q => ?_) (fun q q2 => ?_) (fun q q2 => ?_))
    · exact Wp.r rfl trivial (h2 c q _ ⟨((F3.a (by decide)).f (by decide)).f (by decide), c3, rfl, k46, rfl, rfl, en3, k50, k51, k162, k260, by show upd (S3.2.2 261) _ _ = _; rw [k261]⟩)
    · rw [k224] at q2
      exact Wp.r rfl trivial (h1 c q q2 _ ⟨((((F3.a (by decide)).f (by decide)).f (by decide)).f (by decide)).f (by decide), c3, rfl, k46, rfl, rfl, en3, rfl, rfl, k162, k260, by show upd (S3.2.2 261) _ _ = _; rw [k261]⟩)
    · rw [k224] at q2 ⊢
      refine Wp.r rfl trivial (h3 c q q2 _ ⟨(((F3.a (by decide)).f (by decide)).a (by decide)).f (by decide), ?_, rfl, k46, rfl, s3, en3, k50, k51, k162, k260, by show upd (S3.2.2 261) _ _ = _; rw [k261]⟩)
      rw [← c3]
      rfl
