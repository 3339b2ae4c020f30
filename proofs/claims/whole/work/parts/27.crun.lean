/-- how a run begins -/
def m0F (m : mM) (x y : Int32) : mM := (fillC (gV m) 0 (-1) 6, upd (upd (fillC (gN m) 0 0 4) 0 x) 1 y, gK m, gL m, gX m, gC m, gW m, 0)
theorem WF_0 (m : mM) (x y : Int32) : WFk 0 (m0F m x y) := by
  refine ⟨by omega, rfl, fun v hv => Or.inl ?_, fun o ho => by omega⟩
  show fillC (gV m) 0 (-1) 6 v = -1
  exact fillC_in (by omega) (by omega)
theorem WF_rn {n : Nat} {co pa pb pc ph : Nat → Int32} (hP : PW n co pa pb pc ph) : ∀ (left dn many k0 : Nat) (s : Int32) (m : mM) (sn hd : Nat → Int32), WFk k0 m → ∃ k, WFk k (rnF n co pa pb pc ph left dn s many m sn hd).2.2.2.2.2.1 := by
  intro left
  induction left with
  | zero =>
    intro dn many k0 s m sn hd hW
    unfold rnF
    split
    · exact ⟨k0, hW⟩
    · exact ⟨k0, hW⟩
  | succ left ih =>
    intro dn many k0 s m sn hd hW
    unfold rnF
    split
    · next c =>
      obtain ⟨i, hi0, rfl⟩ := nI_of (Int32.not_lt.mpr c.1)
      have hn := hP.1
      have hi : i < n := (nI_ltI hi0 (by omega)).mp c.2
      obtain ⟨⟨k, hk, hw⟩, -⟩ := hP.2 i hi
      have hk24 := hw.1
      have tk : tn (co i) = k := by rw [hk]; exact tn_nI (by omega)
      rw [tn_nI hi0, tk]
      obtain ⟨k', hW'⟩ := WF_do hW hw
      split
      · split
        · exact ⟨k', hW'⟩
        · exact ih _ _ k' _ _ _ _ hW'
      · split
        · exact ⟨k', hW'⟩
        · split
          · exact ⟨k', hW'⟩
          · exact ih _ _ k' _ _ _ _ (WF_N hW')
    · exact ⟨k0, hW⟩
/-- the run of the class' program from its state -/
abbrev rnC (S : mS) (n : Nat) (x y : Int32) : rR := rnF n (S.2.2 220) (S.2.2 221) (S.2.2 222) (S.2.2 223) (S.2.2 224) 200 0 0 0 (m0F (cV S) x y) (S.2.2 260) (S.2.2 261)
/-- as the class stands behind a run r -/
def cR (S S' : mS) (r : rR) : Prop := Fr (163 :: cFS) cAS S S' ∧ S'.1 163 = S.1 163 + 1 ∧ S'.1 48 = r.1 ∧ S'.1 46 = nI r.2.1 ∧ S'.1 49 = r.2.2.1 ∧ S'.1 50 = r.2.2.2.1 ∧ S'.1 51 = r.2.2.2.2.1 ∧ cV S' = r.2.2.2.2.2.1 ∧ S'.2.2 260 = r.2.2.2.2.2.2.1 ∧ S'.2.2 261 = r.2.2.2.2.2.2.2 ∧ S'.1 162 = S.1 162 + nI r.2.1
theorem s_C_run {d n : Nat} {S : mS} {Q : mQ} {x y : Int32} (hP : cP S n) (h : ∀ S', cR S S' (rnC S n x y) → Q (some (.int (rnC S n x y).1)) S') : Ev (d + 7) n_X5_run [.ref 5, .int x, .int y] S Q := by
  repeat refine Wp.p rfl ?_
  refine Wp.i rfl ?_
  repeat refine Wp.p rfl ?_
  refine Wp.i rfl (s_M_begin (n := n) (fun S1 hF1 h163 hI h162 => ?_))
  iterate 2 refine Wp.p rfl ?_
  have p : ∀ q, q ∈ [220, 221, 222, 223, 224] → S1.2.2 q = S.2.2 q := fun q hq => hF1.2.2 q (by
    simp only [List.mem_cons, List.not_mem_nil, or_false] at hq
    rcases hq with rfl | rfl | rfl | rfl | rfl <;> decide)
  have hP1 : cP S1 n := ⟨(hF1.1 125 (by decide)).trans hP.1, by rw [p 220 (by decide), p 221 (by decide), p 222 (by decide), p 223 (by decide), p 224 (by decide)]; exact hP.2⟩
  refine s_go_loop (x := x) (y := y) S1 hP1 200 0 0 0 0 (m0F (cV S) x y) (S.2.2 260) (S.2.2 261) S1 (by omega) (by omega) (WF_0 _ _ _) hI (fun S' hE => ?_)
  rw [p 220 (by decide), p 221 (by decide), p 222 (by decide), p 223 (by decide), p 224 (by decide)] at hE ⊢
  obtain ⟨hF, e1, e2, e3, e4, e5, e6, e7, e8, e9⟩ := hE
  refine Wp.r rfl trivial (h S' ⟨hF1.tr (hF.up (by decide) (by decide)), (hF.1 163 (by decide)).trans h163, e1, e2, e3, e4, e5, e6, e7, e8, by rw [e9, h162]⟩)
theorem s_M_hasRun {d : Nat} {S : mS} {Q : mQ} (h : Q (some (.int (bI (¬ S.1 48 = 4)))) S) : Ev d n_X1_hasRun [.ref 1] S Q := by
  repeat refine Wp.p rfl ?_
  refine Wp.b rfl (fun (c : S.1 48 = 4) => ?_) (fun (c : ¬ S.1 48 = 4) => ?_)
  · rw [bI_f (fun z => z c)] at h
    repeat refine Wp.p rfl ?_
    exact Wp.r rfl (Or.inl rfl) h
  · rw [bI_t c] at h
    repeat refine Wp.p rfl ?_
    exact Wp.r rfl (Or.inr rfl) h
theorem s_M_forget {d : Nat} {S : mS} {Q : mQ} (h : Q none (sF S 48 4)) : Ev d n_X1_forget [.ref 1] S Q := by
  repeat refine Wp.p rfl ?_
  exact Wp.r rfl trivial h
theorem s_M_numberAt {d : Nat} {S : mS} {Q : mQ} {k : Int32} (hk : vp_in k 4) (h : Q (some (.int (S.2.2 144 (tn k)))) S) : Ev d n_X1_numberAt [.ref 1, .int k] S Q := by
  repeat refine Wp.p rfl ?_
  refine Wp.g rfl hk ?_
  exact Wp.r rfl trivial h
/-- what ran answers of a run -/
def ranF (done ended fb ft made what : Int32) : Int64 := if what = 0 then done.toInt64 else if what = 1 then ended.toInt64 else if what = 2 then fb.toInt64 else if what = 3 then ft.toInt64 else if what = 4 then made.toInt64 else -9223372036854775808
theorem sw5 (w : Int32) : w = 0 ∨ w = 1 ∨ w = 2 ∨ w = 3 ∨ w = 4 ∨ (w.toInt < 0 ∨ 4 < w.toInt) := by
  rcases Int.lt_or_le w.toInt 0 with h | h
  · exact Or.inr (Or.inr (Or.inr (Or.inr (Or.inr (Or.inl h)))))
  rcases Int.lt_or_le 4 w.toInt with h2 | h2
  · exact Or.inr (Or.inr (Or.inr (Or.inr (Or.inr (Or.inr h2)))))
  have : w.toInt = 0 ∨ w.toInt = 1 ∨ w.toInt = 2 ∨ w.toInt = 3 ∨ w.toInt = 4 := by omega
  rcases this with e | e | e | e | e
  · exact Or.inl (Int32.toInt_inj.mp e)
  · exact Or.inr (Or.inl (Int32.toInt_inj.mp e))
  · exact Or.inr (Or.inr (Or.inl (Int32.toInt_inj.mp e)))
  · exact Or.inr (Or.inr (Or.inr (Or.inl (Int32.toInt_inj.mp e))))
  · exact Or.inr (Or.inr (Or.inr (Or.inr (Or.inl (Int32.toInt_inj.mp e)))))
theorem s_M_report {d : Nat} {S : mS} {Q : mQ} {w : Int32} (h : Q (some (.long (ranF (S.1 46) (S.1 49) (S.1 50) (S.1 51) (S.1 5) w))) S) : Ev (d + 1) n_X1_report [.ref 1, .int w] S Q := by
  refine Wp.p rfl ?_
  rcases sw5 w with rfl | rfl | rfl | rfl | rfl | ho
  · refine Wp.p (pc' := 36) rfl ?_
    repeat refine Wp.p rfl ?_
    exact Wp.r rfl trivial h
  · refine Wp.p (pc' := 42) rfl ?_
    repeat refine Wp.p rfl ?_
    exact Wp.r rfl trivial h
  · refine Wp.p (pc' := 48) rfl ?_
    repeat refine Wp.p rfl ?_
    exact Wp.r rfl trivial h
  · refine Wp.p (pc' := 54) rfl ?_
    repeat refine Wp.p rfl ?_
    exact Wp.r rfl trivial h
  · refine Wp.p (pc' := 60) rfl ?_
    repeat refine Wp.p rfl ?_
    refine Wp.i rfl (s_H_size ?_)
    repeat refine Wp.p rfl ?_
    exact Wp.r rfl trivial h
  · have hsw : m_ts [69, 36, 42, 48, 54, 60] 0 4 w = 69 := if_pos ho
    refine Wp.p rfl ?_
    rw [hsw]
    have n0 : ∀ c : Int32, (0 ≤ c.toInt ∧ c.toInt ≤ 4) → ¬ w = c := fun c hc e => by rw [e] at ho; omega
    unfold ranF at h
    rw [if_neg (n0 0 (by decide)), if_neg (n0 1 (by decide)), if_neg (n0 2 (by decide)), if_neg (n0 3 (by decide)), if_neg (n0 4 (by decide))] at h
    repeat refine Wp.p rfl ?_
    exact Wp.r rfl trivial h
theorem s_C_ran {d : Nat} {S : mS} {Q : mQ} {w : Int32} (h0 : S.1 48 = 4 → Q (some (.long (-9223372036854775808))) S) (h1 : ¬ S.1 48 = 4 → Q (some (.long (ranF (S.1 46) (S.1 49) (S.1 50) (S.1 51) (S.1 5) w))) S) : Ev (d + 2) n_X5_ran [.ref 5, .int w] S Q := by
  repeat refine Wp.p rfl ?_
  refine Wp.i rfl (s_M_hasRun ?_)
  refine Wp.b rfl (fun (c : bI (¬ S.1 48 = 4) = 0) => ?_) (fun (c : ¬ bI (¬ S.1 48 = 4) = 0) => ?_)
  · repeat refine Wp.p rfl ?_
    exact Wp.r rfl trivial (h0 (Decidable.not_not.mp (bI_0.mp c)))
  · repeat refine Wp.p rfl ?_
    refine Wp.i rfl (s_M_report ?_)
    repeat refine Wp.p rfl ?_
    exact Wp.r rfl trivial (h1 (fun z => c (bI_0.mpr (fun q => q z))))
theorem s_C_number {d : Nat} {S : mS} {Q : mQ} {k : Int32} (h0 : ¬ (0 ≤ k ∧ k < 4) ∨ S.1 48 = 4 → Q (some (.long (-9223372036854775808))) S) (h1 : 0 ≤ k ∧ k < 4 → ¬ S.1 48 = 4 → Q (some (.long (S.2.2 144 (tn k)).toInt64)) S) : Ev (d + 2) n_X5_number [.ref 5, .int k] S Q := by
  repeat refine Wp.p rfl ?_
  refine Wp.i rfl (s_isNumber ?_)
  refine Wp.b rfl (fun (c : bI (0 ≤ k ∧ k < 4) = 0) => ?_) (fun (c : ¬ bI (0 ≤ k ∧ k < 4) = 0) => ?_)
  · repeat refine Wp.p rfl ?_
    exact Wp.r rfl trivial (h0 (Or.inl (bI_0.mp c)))
  · have ck : 0 ≤ k ∧ k < 4 := Decidable.not_not.mp (fun z => c (bI_0.mpr z))
    repeat refine Wp.p rfl ?_
    refine Wp.i rfl (s_M_hasRun ?_)
    refine Wp.b rfl (fun (c : bI (¬ S.1 48 = 4) = 0) => ?_) (fun (c : ¬ bI (¬ S.1 48 = 4) = 0) => ?_)
    · repeat refine Wp.p rfl ?_
      exact Wp.r rfl trivial (h0 (Or.inr (Decidable.not_not.mp (bI_0.mp c))))
    · repeat refine Wp.p rfl ?_
      refine Wp.i rfl (s_M_numberAt (inN ck) ?_)
      repeat refine Wp.p rfl ?_
      exact Wp.r rfl trivial (h1 ck (fun z => c (bI_0.mpr (fun q => q z))))
