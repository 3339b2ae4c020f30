def bI (p : Prop) [Decidable p] : Int32 := if p then 1 else 0
theorem bI_t {p : Prop} [Decidable p] (h : p) : bI p = 1 := if_pos h
theorem bI_f {p : Prop} [Decidable p] (h : ¬ p) : bI p = 0 := if_neg h
theorem bI_01 {p : Prop} [Decidable p] : bI p = 0 ∨ bI p = 1 := by
  unfold bI
  split
  · exact Or.inr rfl
  · exact Or.inl rfl
theorem bI_0 {p : Prop} [Decidable p] : bI p = 0 ↔ ¬ p := by
  unfold bI
  split
  · next h => exact ⟨fun e => absurd e (by decide), fun e => absurd h e⟩
  · next h => exact ⟨fun _ => h, fun _ => rfl⟩
abbrev sF (S : mS) (q : Nat) (x : Int32) : mS := (upd S.1 q x, S.2)
abbrev sA (S : mS) (a i : Nat) (x : Int32) : mS := (S.1, S.2.1, va_up S.2.2 a (upd (S.2.2 a) i x))
theorem s_isVariable {d : Nat} {S : mS} {Q : mQ} {v : Int32} (h : Q (some (.int (bI (0 ≤ v ∧ v < 6)))) S) : Ev d n_X5_isVariable [.int v] S Q := by
  refine Wp.p rfl ?_
  refine Wp.b rfl (fun h1 => ?_) (fun h1 => ?_)
  · rw [bI_f (fun q => Int32.not_lt.mpr q.1 h1)] at h
    refine Wp.p rfl ?_
    exact Wp.r rfl (Or.inl rfl) h
  · iterate 2 refine Wp.p rfl ?_
    refine Wp.b rfl (fun h2 => ?_) (fun h2 => ?_)
    · rw [bI_f (fun q => Int32.not_le.mpr q.2 h2)] at h
      refine Wp.p rfl ?_
      exact Wp.r rfl (Or.inl rfl) h
    · rw [bI_t ⟨Int32.not_lt.mp h1, Int32.not_le.mp h2⟩] at h
      iterate 2 refine Wp.p rfl ?_
      exact Wp.r rfl (Or.inr rfl) h
theorem s_isNumber {d : Nat} {S : mS} {Q : mQ} {v : Int32} (h : Q (some (.int (bI (0 ≤ v ∧ v < 4)))) S) : Ev d n_X5_isNumber [.int v] S Q := by
  refine Wp.p rfl ?_
  refine Wp.b rfl (fun h1 => ?_) (fun h1 => ?_)
  · rw [bI_f (fun q => Int32.not_lt.mpr q.1 h1)] at h
    refine Wp.p rfl ?_
    exact Wp.r rfl (Or.inl rfl) h
  · iterate 2 refine Wp.p rfl ?_
    refine Wp.b rfl (fun h2 => ?_) (fun h2 => ?_)
    · rw [bI_f (fun q => Int32.not_le.mpr q.2 h2)] at h
      refine Wp.p rfl ?_
      exact Wp.r rfl (Or.inl rfl) h
    · rw [bI_t ⟨Int32.not_lt.mp h1, Int32.not_le.mp h2⟩] at h
      iterate 2 refine Wp.p rfl ?_
      exact Wp.r rfl (Or.inr rfl) h
theorem s_only {d : Nat} {S : mS} {Q : mQ} {k : Int32} (h : Q (some (.int (1 <<< (k &&& 31)))) S) : Ev d n_X5_only [.int k] S Q := by
  iterate 3 refine Wp.p rfl ?_
  exact Wp.r rfl trivial h
/-- a set has a kind -/
abbrev hB (x k : Int32) : Prop := ¬ (x >>> (k &&& 31)) &&& 1 = 0
theorem s_holds {d : Nat} {S : mS} {Q : mQ} {x k : Int32} (h1 : hB x k → Q (some (.int 1)) S) (h0 : ¬ hB x k → Q (some (.int 0)) S) : Ev d n_X5_holds [.int x, .int k] S Q := by
  iterate 5 refine Wp.p rfl ?_
  refine Wp.b rfl (fun c => ?_) (fun c => ?_)
  · refine Wp.p rfl ?_
    exact Wp.r rfl (Or.inl rfl) (h0 (fun q => q c))
  · iterate 2 refine Wp.p rfl ?_
    exact Wp.r rfl (Or.inr rfl) (h1 c)
theorem s_share {d : Nat} {S : mS} {Q : mQ} {x y : Int32} (h1 : ¬ x &&& y = 0 → Q (some (.int 1)) S) (h0 : x &&& y = 0 → Q (some (.int 0)) S) : Ev d n_X5_share [.int x, .int y] S Q := by
  iterate 3 refine Wp.p rfl ?_
  refine Wp.b rfl (fun c => ?_) (fun c => ?_)
  · refine Wp.p rfl ?_
    exact Wp.r rfl (Or.inl rfl) (h0 c)
  · iterate 2 refine Wp.p rfl ?_
    exact Wp.r rfl (Or.inr rfl) (h1 c)
theorem s_faultIf {d : Nat} {S : mS} {Q : mQ} {b f : Int32} (h1 : ¬ b = 0 → Q (some (.int (1 <<< (f &&& 31)))) S) (h0 : b = 0 → Q (some (.int 0)) S) : Ev d n_X5_faultIf [.int b, .int f] S Q := by
  refine Wp.p rfl ?_
  refine Wp.b rfl (fun c => ?_) (fun c => ?_)
  · refine Wp.p rfl ?_
    exact Wp.r rfl trivial (h0 c)
  · iterate 4 refine Wp.p rfl ?_
    exact Wp.r rfl trivial (h1 c)
-- Program
theorem s_P_size {d : Nat} {S : mS} {Q : mQ} (h : Q (some (.int (S.1 125))) S) : Ev d n_X3_size [.ref 3] S Q := by
  iterate 2 refine Wp.p rfl ?_
  exact Wp.r rfl trivial h
theorem s_P_empty {d : Nat} {S : mS} {Q : mQ} (h : Q none (sF S 125 0)) : Ev d n_X3_empty [.ref 3] S Q := by
  iterate 3 refine Wp.p rfl ?_
  exact Wp.r rfl trivial h
theorem s_P_has {d : Nat} {S : mS} {Q : mQ} {k : Int32} (h : Q (some (.int (bI (0 ≤ k ∧ k < S.1 125)))) S) : Ev d n_X3_has [.ref 3, .int k] S Q := by
  refine Wp.p rfl ?_
  refine Wp.b rfl (fun h1 => ?_) (fun h1 => ?_)
  · rw [bI_f (fun q => Int32.not_lt.mpr q.1 h1)] at h
    refine Wp.p rfl ?_
    exact Wp.r rfl (Or.inl rfl) h
  · iterate 3 refine Wp.p rfl ?_
    refine Wp.b rfl (fun h2 => ?_) (fun h2 => ?_)
    · rw [bI_f (fun q => Int32.not_le.mpr q.2 h2)] at h
      refine Wp.p rfl ?_
      exact Wp.r rfl (Or.inl rfl) h
    · rw [bI_t ⟨Int32.not_lt.mp h1, Int32.not_le.mp h2⟩] at h
      iterate 2 refine Wp.p rfl ?_
      exact Wp.r rfl (Or.inr rfl) h
theorem s_P_add {d : Nat} {S : mS} {Q : mQ} {co a b c hd : Int32} (hi : vp_in (S.1 125) 32) (h : Q (some (.int (S.1 125))) (sF (sA (sA (sA (sA (sA S 220 (S.1 125).toNatClampNeg co) 221 (S.1 125).toNatClampNeg a) 222 (S.1 125).toNatClampNeg b) 223 (S.1 125).toNatClampNeg c) 224 (S.1 125).toNatClampNeg hd) 125 (S.1 125 + 1))) : Ev d n_X3_add [.ref 3, .int co, .int a, .int b, .int c, .int hd] S Q := by
  iterate 7 refine Wp.p rfl ?_
  refine Wp.g rfl hi ?_
  iterate 4 refine Wp.p rfl ?_
  refine Wp.g rfl hi ?_
  iterate 4 refine Wp.p rfl ?_
  refine Wp.g rfl hi ?_
  iterate 4 refine Wp.p rfl ?_
  refine Wp.g rfl hi ?_
  iterate 4 refine Wp.p rfl ?_
  refine Wp.g rfl hi ?_
  iterate 7 refine Wp.p rfl ?_
  exact Wp.r rfl trivial h
-- Watch
theorem s_W_noteRun {d : Nat} {S : mS} {Q : mQ} (h : Q none (sF S 163 (S.1 163 + 1))) : Ev d n_X4_noteRun [.ref 4] S Q := by
  iterate 6 refine Wp.p rfl ?_
  exact Wp.r rfl trivial h
theorem s_W_noteStep {d : Nat} {S : mS} {Q : mQ} (h : Q none (sF S 162 (S.1 162 + 1))) : Ev d n_X4_noteStep [.ref 4] S Q := by
  iterate 6 refine Wp.p rfl ?_
  exact Wp.r rfl trivial h
theorem s_W_noteKind {d : Nat} {S : mS} {Q : mQ} {s v k : Int32} (hi : vp_in (s * 6 + v) 192) (h : Q none (sA S 260 (s * 6 + v).toNatClampNeg (S.2.2 260 (s * 6 + v).toNatClampNeg ||| 1 <<< (k &&& 31)))) : Ev (d + 1) n_X4_noteKind [.ref 4, .int s, .int v, .int k] S Q := by
  iterate 8 refine Wp.p rfl ?_
  refine Wp.g rfl hi ?_
  refine Wp.p rfl ?_
  refine Wp.i rfl (s_only ?_)
  refine Wp.p rfl ?_
  refine Wp.g rfl hi ?_
  exact Wp.r rfl trivial h
theorem s_W_noteFault {d : Nat} {S : mS} {Q : mQ} {s f : Int32} (hi : vp_in s 32) (h : Q none (sA S 261 s.toNatClampNeg (S.2.2 261 s.toNatClampNeg ||| 1 <<< (f &&& 31)))) : Ev d n_X4_noteFault [.ref 4, .int s, .int f] S Q := by
  iterate 4 refine Wp.p rfl ?_
  refine Wp.g rfl hi ?_
  iterate 4 refine Wp.p rfl ?_
  refine Wp.g rfl hi ?_
  exact Wp.r rfl trivial h
theorem s_W_kindsAt {d : Nat} {S : mS} {Q : mQ} {s v : Int32} (hi : vp_in (s * 6 + v) 192) (h : Q (some (.int (S.2.2 260 (s * 6 + v).toNatClampNeg))) S) : Ev d n_X4_kindsAt [.ref 4, .int s, .int v] S Q := by
  iterate 7 refine Wp.p rfl ?_
  refine Wp.g rfl hi ?_
  exact Wp.r rfl trivial h
theorem s_W_faultsAt {d : Nat} {S : mS} {Q : mQ} {s : Int32} (hi : vp_in s 32) (h : Q (some (.int (S.2.2 261 s.toNatClampNeg))) S) : Ev d n_X4_faultsAt [.ref 4, .int s] S Q := by
  iterate 3 refine Wp.p rfl ?_
  refine Wp.g rfl hi ?_
  exact Wp.r rfl trivial h
theorem s_W_stepsDone {d : Nat} {S : mS} {Q : mQ} (h : Q (some (.int (S.1 162))) S) : Ev d n_X4_stepsDone [.ref 4] S Q := by
  iterate 2 refine Wp.p rfl ?_
  exact Wp.r rfl trivial h
theorem s_W_runs {d : Nat} {S : mS} {Q : mQ} (h : Q (some (.int (S.1 163))) S) : Ev d n_X4_runs [.ref 4] S Q := by
  iterate 2 refine Wp.p rfl ?_
  exact Wp.r rfl trivial h
