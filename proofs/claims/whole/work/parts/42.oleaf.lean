theorem s_shareI {d : Nat} {S : mS} {Q : mQ} {x y : Int32} (h : Q (some (.int (bI (sh x y)))) S) : Ev d n_X5_share [.int x, .int y] S Q := by
  refine s_share (fun c => ?_) (fun c => ?_)
  · rw [bI_t c] at h; exact h
  · rw [bI_f (fun z => z c)] at h; exact h
theorem s_holdsI {d k : Nat} {S : mS} {Q : mQ} {x : Int32} (hk : k < 32) (h : Q (some (.int (bI (hb x k = true)))) S) : Ev d n_X5_holds [.int x, .int (nI k)] S Q := by
  refine s_holds (fun c => ?_) (fun c => ?_)
  · rw [bI_t ((hB_hb hk).mp c)] at h; exact h
  · rw [bI_f (fun z => c ((hB_hb hk).mpr z))] at h; exact h
theorem s_faultI {d : Nat} {S : mS} {Q : mQ} {p : Prop} [Decidable p] {f c : Int32} (hc : 1 <<< (f &&& 31) = c) (h : Q (some (.int (if p then c else 0))) S) : Ev d n_X5_faultIf [.int (bI p), .int f] S Q := by
  refine s_faultIf (fun e => ?_) (fun e => ?_)
  · rw [if_pos (Decidable.not_not.mp (fun z => e (bI_0.mpr z)))] at h; rw [hc]; exact h
  · rw [if_neg (bI_0.mp e)] at h; exact h
theorem s_O_castFaults {d : Nat} {S : mS} {Q : mQ} {m ty : Int32} (ht : vp_in ty 11) (h : Q (some (.int (castF m (m_sv 500 (tn ty))))) S) : Ev (d + 1) n_X2_castFaults [.int m, .int ty] S Q := by
  repeat refine Wp.p rfl ?_
  refine Wp.g rfl ht ?_
  repeat refine Wp.p rfl ?_
  refine Wp.i rfl (s_shareI (x := m) (y := (m_sv 500 (tn ty) ||| 1) ^^^ -1) ?_)
  repeat refine Wp.p rfl ?_
  refine Wp.i rfl (s_faultI (c := 4) (by decide) ?_)
  exact Wp.r rfl trivial h
theorem s_O_useFaults {d : Nat} {S : mS} {Q : mQ} {m ty : Int32} (ht : vp_in ty 11) (h : Q (some (.int (useF m (m_sv 500 (tn ty))))) S) : Ev (d + 2) n_X2_useFaults [.int m, .int ty] S Q := by
  repeat refine Wp.p rfl ?_
  refine Wp.i rfl (s_O_castFaults ht ?_)
  repeat refine Wp.p rfl ?_
  refine Wp.i rfl (s_shareI (x := m) (y := 1) ?_)
  repeat refine Wp.p rfl ?_
  refine Wp.i rfl (s_faultI (c := 2) (by decide) ?_)
  repeat refine Wp.p rfl ?_
  exact Wp.r rfl trivial h
theorem s_O_cellFaults {d : Nat} {S : mS} {Q : mQ} {m ty : Int32} (ht : vp_in ty 11) (h : Q (some (.int (cellF m (m_sv 500 (tn ty))))) S) : Ev (d + 2) n_X2_cellFaults [.int m, .int ty] S Q := by
  repeat refine Wp.p rfl ?_
  refine Wp.i rfl (s_O_castFaults ht ?_)
  repeat refine Wp.p rfl ?_
  refine Wp.i rfl (s_shareI (x := m) (y := 1) ?_)
  repeat refine Wp.p rfl ?_
  refine Wp.i rfl (s_faultI (c := 2) (by decide) ?_)
  repeat refine Wp.p rfl ?_
  refine Wp.g rfl ht ?_
  refine Wp.i rfl (s_shareI (x := m) (y := m_sv 500 (tn ty)) ?_)
  repeat refine Wp.p rfl ?_
  refine Wp.i rfl (s_faultI (c := 8) (by decide) ?_)
  repeat refine Wp.p rfl ?_
  exact Wp.r rfl trivial h
theorem s_O_lengthFaults {d : Nat} {S : mS} {Q : mQ} {m : Int32} (h : Q (some (.int (lenF m))) S) : Ev (d + 1) n_X2_lengthFaults [.int m] S Q := by
  repeat refine Wp.p rfl ?_
  refine Wp.i rfl (s_shareI (x := m) (y := 1) ?_)
  repeat refine Wp.p rfl ?_
  refine Wp.i rfl (s_faultI (c := 2) (by decide) ?_)
  repeat refine Wp.p rfl ?_
  refine Wp.i rfl (s_shareI (x := m) (y := 30) ?_)
  repeat refine Wp.p rfl ?_
  refine Wp.i rfl (s_faultI (c := 4) (by decide) ?_)
  repeat refine Wp.p rfl ?_
  exact Wp.r rfl trivial h
theorem sh31_25 {y : Int32} : sh (y &&& 31) (25 ^^^ -1) ↔ sh y 6 := by
  have : y &&& 31 &&& (25 ^^^ -1) = y &&& 6 := by
    rw [Int32.and_assoc]
    rfl
  unfold sh
  rw [this]
theorem s_O_setCellFaults {d : Nat} {S : mS} {Q : mQ} {x y : Int32} (h : Q (some (.int (setF x y))) S) : Ev (d + 3) n_X2_setCellFaults [.int x, .int y] S Q := by
  unfold setF at h
  repeat refine Wp.p rfl ?_
  refine Wp.i rfl (s_O_castFaults (ty := 8) (by unfold vp_in; decide) ?_)
  repeat refine Wp.p rfl ?_
  refine Wp.i rfl (s_O_castFaults (ty := 1) (by unfold vp_in; decide) ?_)
  rw [t8v, t1v]
  repeat refine Wp.p rfl ?_
  refine Wp.g rfl (show vp_in 7 10 by unfold vp_in; decide) ?_
  repeat refine Wp.p rfl ?_
  refine Wp.b rfl (fun (c : ¬ y &&& 31 = 0) => ?_) (fun (c : ¬ ¬ y &&& 31 = 0) => ?_)
  case refine_2 =>
    rw [if_pos (Decidable.not_not.mp c)] at h
    repeat refine Wp.p rfl ?_
    exact Wp.r rfl trivial h
  rw [if_neg c] at h
  have fin : ∀ z : Int32, z = bI (sh x 256 ∧ sh y 6) → Wp (d + 3) n_X2_setCellFaults 58 [(3, .int (y &&& 31)), (2, .int (castF x 384 ||| castF y 30)), (0, .int x), (1, .int y)] [.int z] S Q := fun z hz => by
    rw [hz]
    repeat refine Wp.p rfl ?_
    refine Wp.i rfl (s_O_cellFaults (ty := 8) (by unfold vp_in; decide) ?_)
    rw [t8v]
    repeat refine Wp.p rfl ?_
    refine Wp.i rfl (s_faultI (c := 16) (by decide) ?_)
    repeat refine Wp.p rfl ?_
    exact Wp.r rfl trivial h
  repeat refine Wp.p rfl ?_
  refine Wp.i rfl (s_shareI (x := x) (y := 256) ?_)
  refine Wp.b rfl (fun (e : bI (sh x 256) = 0) => ?_) (fun (e : ¬ bI (sh x 256) = 0) => ?_)
  · iterate 1 refine Wp.p rfl ?_
    exact fin 0 (bI_f (fun z => bI_0.mp e z.1)).symm
  repeat refine Wp.p rfl ?_
  refine Wp.g rfl (show vp_in 8 10 by unfold vp_in; decide) ?_
  repeat refine Wp.p rfl ?_
  refine Wp.i rfl (s_shareI (x := y &&& 31) (y := 25 ^^^ -1) ?_)
  refine Wp.b rfl (fun (e2 : bI (sh (y &&& 31) (25 ^^^ -1)) = 0) => ?_) (fun (e2 : ¬ bI (sh (y &&& 31) (25 ^^^ -1)) = 0) => ?_)
  · iterate 1 refine Wp.p rfl ?_
    exact fin 0 (bI_f (fun z => bI_0.mp e2 (sh31_25.mpr z.2))).symm
  · iterate 2 refine Wp.p rfl ?_
    exact fin 1 (bI_t ⟨Decidable.not_not.mp (fun z => e (bI_0.mpr z)), sh31_25.mp (Decidable.not_not.mp (fun z => e2 (bI_0.mpr z)))⟩).symm
theorem s_O_cellsOf {d : Nat} {S : mS} {Q : mQ} {m : Int32} {al : Nat → Int32} (h1 : al 1 = S.2.2 182 1) (h2 : al 2 = S.2.2 182 2) (h : Q (some (.int (CO m al))) S) : Ev (d + 1) n_X2_cellsOf [.ref 2, .int m] S Q := by
  unfold CO at h
  rw [h1, h2] at h
  repeat refine Wp.p rfl ?_
  refine Wp.i rfl (s_share (fun (c : sh m 128) => ?_) (fun (c : m &&& 128 = 0) => ?_))
  · rw [if_pos c] at h
    refine Wp.b rfl (fun (e : (1 : Int32) = 0) => absurd e (by decide)) (fun _ => ?_)
    repeat refine Wp.p rfl ?_
    refine Wp.g rfl (show vp_in 1 3 by unfold vp_in; decide) ?_
    repeat refine Wp.p rfl ?_
    refine Wp.i rfl (s_share (fun (c2 : sh m 256) => ?_) (fun (c2 : m &&& 256 = 0) => ?_))
    · rw [if_pos c2] at h
      refine Wp.b rfl (fun (e : (1 : Int32) = 0) => absurd e (by decide)) (fun _ => ?_)
      repeat refine Wp.p rfl ?_
      refine Wp.g rfl (show vp_in 2 3 by unfold vp_in; decide) ?_
      repeat refine Wp.p rfl ?_
      exact Wp.r rfl trivial h
    · rw [if_neg (fun z => z c2)] at h
      refine Wp.b rfl (fun _ => ?_) (fun (e : ¬ (0 : Int32) = 0) => absurd rfl e)
      repeat refine Wp.p rfl ?_
      exact Wp.r rfl trivial h
  · rw [if_neg (fun z => z c)] at h
    refine Wp.b rfl (fun _ => ?_) (fun (e : ¬ (0 : Int32) = 0) => absurd rfl e)
    repeat refine Wp.p rfl ?_
    refine Wp.i rfl (s_share (fun (c2 : sh m 256) => ?_) (fun (c2 : m &&& 256 = 0) => ?_))
    · rw [if_pos c2] at h
      refine Wp.b rfl (fun (e : (1 : Int32) = 0) => absurd e (by decide)) (fun _ => ?_)
      repeat refine Wp.p rfl ?_
      refine Wp.g rfl (show vp_in 2 3 by unfold vp_in; decide) ?_
      repeat refine Wp.p rfl ?_
      exact Wp.r rfl trivial h
    · rw [if_neg (fun z => z c2)] at h
      refine Wp.b rfl (fun _ => ?_) (fun (e : ¬ (0 : Int32) = 0) => absurd rfl e)
      repeat refine Wp.p rfl ?_
      exact Wp.r rfl trivial h
theorem s_O_arraysThatTake {d : Nat} {S : mS} {Q : mQ} {m : Int32} (h : Q (some (.int (TK m))) S) : Ev (d + 1) n_X2_arraysThatTake [.int m] S Q := by
  unfold TK at h
  repeat refine Wp.p rfl ?_
  refine Wp.g rfl (show vp_in 7 10 by unfold vp_in; decide) ?_
  refine Wp.i rfl (s_share (fun (c : sh m 31) => ?_) (fun (c : m &&& 31 = 0) => ?_))
  · rw [if_pos c] at h
    refine Wp.b rfl (fun (e : (1 : Int32) = 0) => absurd e (by decide)) (fun _ => ?_)
    repeat refine Wp.p rfl ?_
    repeat refine Wp.p rfl ?_
    refine Wp.g rfl (show vp_in 8 10 by unfold vp_in; decide) ?_
    refine Wp.i rfl (s_share (fun (c : sh m 25) => ?_) (fun (c : m &&& 25 = 0) => ?_))
    · rw [if_pos c] at h
      refine Wp.b rfl (fun (e : (1 : Int32) = 0) => absurd e (by decide)) (fun _ => ?_)
      repeat refine Wp.p rfl ?_
      repeat refine Wp.p rfl ?_
      exact Wp.r rfl trivial h
    · rw [if_neg (fun z => z c)] at h
      refine Wp.b rfl (fun _ => ?_) (fun (e : ¬ (0 : Int32) = 0) => absurd rfl e)
      repeat refine Wp.p rfl ?_
      exact Wp.r rfl trivial h
  · rw [if_neg (fun z => z c)] at h
    refine Wp.b rfl (fun _ => ?_) (fun (e : ¬ (0 : Int32) = 0) => absurd rfl e)
    repeat refine Wp.p rfl ?_
    refine Wp.g rfl (show vp_in 8 10 by unfold vp_in; decide) ?_
    refine Wp.i rfl (s_share (fun (c : sh m 25) => ?_) (fun (c : m &&& 25 = 0) => ?_))
    · rw [if_pos c] at h
      refine Wp.b rfl (fun (e : (1 : Int32) = 0) => absurd e (by decide)) (fun _ => ?_)
      repeat refine Wp.p rfl ?_
      repeat refine Wp.p rfl ?_
      exact Wp.r rfl trivial h
    · rw [if_neg (fun z => z c)] at h
      refine Wp.b rfl (fun _ => ?_) (fun (e : ¬ (0 : Int32) = 0) => absurd rfl e)
      repeat refine Wp.p rfl ?_
      exact Wp.r rfl trivial h
theorem s_O_kindsTakenBy {d : Nat} {S : mS} {Q : mQ} {m : Int32} (h : Q (some (.int (KT m))) S) : Ev (d + 1) n_X2_kindsTakenBy [.int m] S Q := by
  unfold KT at h
  repeat refine Wp.p rfl ?_
  refine Wp.i rfl (s_share (fun (c : sh m 128) => ?_) (fun (c : m &&& 128 = 0) => ?_))
  · rw [if_pos c] at h
    refine Wp.b rfl (fun (e : (1 : Int32) = 0) => absurd e (by decide)) (fun _ => ?_)
    repeat refine Wp.p rfl ?_
    refine Wp.g rfl (show vp_in 7 10 by unfold vp_in; decide) ?_
    repeat refine Wp.p rfl ?_
    refine Wp.i rfl (s_share (fun (c : sh m 256) => ?_) (fun (c : m &&& 256 = 0) => ?_))
    · rw [if_pos c] at h
      refine Wp.b rfl (fun (e : (1 : Int32) = 0) => absurd e (by decide)) (fun _ => ?_)
      repeat refine Wp.p rfl ?_
      refine Wp.g rfl (show vp_in 8 10 by unfold vp_in; decide) ?_
      repeat refine Wp.p rfl ?_
      exact Wp.r rfl trivial h
    · rw [if_neg (fun z => z c)] at h
      refine Wp.b rfl (fun _ => ?_) (fun (e : ¬ (0 : Int32) = 0) => absurd rfl e)
      repeat refine Wp.p rfl ?_
      exact Wp.r rfl trivial h
  · rw [if_neg (fun z => z c)] at h
    refine Wp.b rfl (fun _ => ?_) (fun (e : ¬ (0 : Int32) = 0) => absurd rfl e)
    repeat refine Wp.p rfl ?_
    refine Wp.i rfl (s_share (fun (c : sh m 256) => ?_) (fun (c : m &&& 256 = 0) => ?_))
    · rw [if_pos c] at h
      refine Wp.b rfl (fun (e : (1 : Int32) = 0) => absurd e (by decide)) (fun _ => ?_)
      repeat refine Wp.p rfl ?_
      refine Wp.g rfl (show vp_in 8 10 by unfold vp_in; decide) ?_
      repeat refine Wp.p rfl ?_
      exact Wp.r rfl trivial h
    · rw [if_neg (fun z => z c)] at h
      refine Wp.b rfl (fun _ => ?_) (fun (e : ¬ (0 : Int32) = 0) => absurd rfl e)
      repeat refine Wp.p rfl ?_
      exact Wp.r rfl trivial h
theorem s_O_mt_it {d k : Nat} {S : mS} {Q : mQ} {m f : Int32} (h5 : 5 ≤ k) (h9 : k < 10) (h : Wp (d + 1) n_X2_movedTo 4 [(1, .int (f ||| (if sh m (m_sv 502 k) then 1 <<< (nI k &&& 31) else 0))), (2, .int (nI (k + 1))), (0, .int m)] [] S Q) : Wp (d + 1) n_X2_movedTo 4 [(1, .int f), (2, .int (nI k)), (0, .int m)] [] S Q := by
  have tk : tn (nI k) = k := tn_nI (by omega)
  iterate 2 refine Wp.p rfl ?_
  refine Wp.b rfl (fun (c : (10 : Int32) ≤ nI k) => absurd c (nI_ge (b := 10) h9 (by decide))) (fun _ => ?_)
  iterate 3 refine Wp.p rfl ?_
  refine Wp.g rfl (vp_in_nI (N := 10) h9 (by omega)) ?_
  refine Wp.i rfl (s_share (fun (c : sh m (m_sv 502 (tn (nI k)))) => ?_) (fun (c : m &&& m_sv 502 (tn (nI k)) = 0) => ?_))
  · rw [tk] at c
    rw [if_pos c] at h
    refine Wp.b rfl (fun (e : (1 : Int32) = 0) => absurd e (by decide)) (fun _ => ?_)
    iterate 2 refine Wp.p rfl ?_
    refine Wp.i rfl (s_only ?_)
    iterate 4 refine Wp.p rfl ?_
    rw [← nI_1] at h
    exact h.sub (lS.mk rfl rfl (by repeat (first | exact lSub.nil | refine lSub.cons rfl ?_)))
  · rw [tk] at c
    rw [if_neg (fun z => z c), Int32.or_zero] at h
    refine Wp.b rfl (fun _ => ?_) (fun (e : ¬ (0 : Int32) = 0) => absurd rfl e)
    iterate 2 refine Wp.p rfl ?_
    rw [← nI_1] at h
    exact h.sub (lS.mk rfl rfl (by repeat (first | exact lSub.nil | refine lSub.cons rfl ?_)))
theorem s_O_movedTo {d : Nat} {S : mS} {Q : mQ} {m : Int32} (h : Q (some (.int (MV m))) S) : Ev (d + 1) n_X2_movedTo [.int m] S Q := by
  iterate 4 refine Wp.p rfl ?_
  refine (?_ : Wp (d + 1) n_X2_movedTo 4 [(1, .int 0), (2, .int (nI 5)), (0, .int m)] [] S Q).sub (lS.mk rfl rfl (by repeat (first | exact lSub.nil | refine lSub.cons rfl ?_)))
  refine s_O_mt_it (by omega) (by omega) (s_O_mt_it (by omega) (by omega) (s_O_mt_it (by omega) (by omega) (s_O_mt_it (by omega) (by omega) (s_O_mt_it (by omega) (by omega) ?_))))
  iterate 2 refine Wp.p rfl ?_
  refine Wp.bT rfl (by decide) ?_
  iterate 1 refine Wp.p rfl ?_
  refine Wp.r rfl trivial ?_
  unfold MV at h
  have e5 : m_sv 502 5 = 32 := rfl
  have e6 : m_sv 502 (5 + 1) = 64 := rfl
  have e7 : m_sv 502 (5 + 1 + 1) = 896 := rfl
  have e8 : m_sv 502 (5 + 1 + 1 + 1) = 896 := rfl
  have e9 : m_sv 502 (5 + 1 + 1 + 1 + 1) = 896 := rfl
  rw [e5, e6, e7, e8, e9]
  by_cases a : sh m 32 <;> by_cases b : sh m 64 <;> by_cases c : sh m 896 <;> (first | rw [if_pos a] at h ⊢ | rw [if_neg a] at h ⊢) <;> (first | rw [if_pos b] at h ⊢ | rw [if_neg b] at h ⊢) <;> (first | rw [if_pos c] at h ⊢ | rw [if_neg c] at h ⊢) <;> (try rw [if_pos c, if_pos c]) <;> (try rw [if_neg c, if_neg c]) <;> exact h
theorem s_O_mf_it {d k : Nat} {S : mS} {Q : mQ} {m f : Int32} (h5 : 5 ≤ k) (h9 : k < 10) (h : Wp (d + 1) n_X2_movedFrom 4 [(1, .int (f ||| (if hb m k = true then m_sv 502 k else 0))), (2, .int (nI (k + 1))), (0, .int m)] [] S Q) : Wp (d + 1) n_X2_movedFrom 4 [(1, .int f), (2, .int (nI k)), (0, .int m)] [] S Q := by
  have tk : tn (nI k) = k := tn_nI (by omega)
  iterate 2 refine Wp.p rfl ?_
  refine Wp.b rfl (fun (c : (10 : Int32) ≤ nI k) => absurd c (nI_ge (b := 10) h9 (by decide))) (fun _ => ?_)
  iterate 2 refine Wp.p rfl ?_
  refine Wp.i rfl (s_holdsI (by omega) ?_)
  by_cases c : hb m k = true
  · rw [if_pos c] at h
    rw [bI_t c]
    refine Wp.b rfl (fun (e : (1 : Int32) = 0) => absurd e (by decide)) (fun _ => ?_)
    iterate 3 refine Wp.p rfl ?_
    refine Wp.g rfl (vp_in_nI (N := 10) h9 (by omega)) ?_
    iterate 4 refine Wp.p rfl ?_
    rw [← nI_1, ← tk] at h
    refine Wp.sub (ls := [(1, .int (f ||| m_sv 502 (tn (nI k)))), (2, .int (nI k + 1)), (0, .int m)]) ?_ (lS.mk rfl rfl (by repeat (first | exact lSub.nil | refine lSub.cons rfl ?_)))
    rw [tk] at h ⊢
    exact h
  · rw [if_neg c, Int32.or_zero] at h
    rw [bI_f c]
    refine Wp.b rfl (fun _ => ?_) (fun (e : ¬ (0 : Int32) = 0) => absurd rfl e)
    iterate 2 refine Wp.p rfl ?_
    rw [← nI_1] at h
    exact h.sub (lS.mk rfl rfl (by repeat (first | exact lSub.nil | refine lSub.cons rfl ?_)))
theorem sh896 {m : Int32} : sh m 896 ↔ hb m 7 = true ∨ hb m 8 = true ∨ hb m 9 = true := by
  rw [show (896 : Int32) = 128 ||| (256 ||| 512) from rfl, sh_or, sh_or, sh_1 (k := 7) (by decide) (by decide), sh_1 (k := 8) (by decide) (by decide), sh_1 (k := 9) (by decide) (by decide)]
theorem s_O_movedFrom {d : Nat} {S : mS} {Q : mQ} {m : Int32} (h : Q (some (.int (MV m))) S) : Ev (d + 1) n_X2_movedFrom [.int m] S Q := by
  iterate 4 refine Wp.p rfl ?_
  refine (?_ : Wp (d + 1) n_X2_movedFrom 4 [(1, .int 0), (2, .int (nI 5)), (0, .int m)] [] S Q).sub (lS.mk rfl rfl (by repeat (first | exact lSub.nil | refine lSub.cons rfl ?_)))
  refine s_O_mf_it (by omega) (by omega) (s_O_mf_it (by omega) (by omega) (s_O_mf_it (by omega) (by omega) (s_O_mf_it (by omega) (by omega) (s_O_mf_it (by omega) (by omega) ?_))))
  iterate 2 refine Wp.p rfl ?_
  refine Wp.bT rfl (by decide) ?_
  iterate 1 refine Wp.p rfl ?_
  refine Wp.r rfl trivial ?_
  have e : MV m = 0 ||| (if hb m 5 = true then m_sv 502 5 else 0) ||| (if hb m (5 + 1) = true then m_sv 502 (5 + 1) else 0) ||| (if hb m (5 + 1 + 1) = true then m_sv 502 (5 + 1 + 1) else 0) ||| (if hb m (5 + 1 + 1 + 1) = true then m_sv 502 (5 + 1 + 1 + 1) else 0) ||| (if hb m (5 + 1 + 1 + 1 + 1) = true then m_sv 502 (5 + 1 + 1 + 1 + 1) else 0) := by
    unfold MV
    have a5 : sh m 32 ↔ hb m 5 = true := sh_1 (by decide) (by decide)
    have a6 : sh m 64 ↔ hb m 6 = true := sh_1 (by decide) (by decide)
    have a7 := sh896 (m := m)
    cases c5 : hb m 5 <;> cases c6 : hb m 6 <;> cases c7 : hb m 7 <;> cases c8 : hb m 8 <;> cases c9 : hb m 9 <;> rw [c5] at a5 <;> rw [c6] at a6 <;> rw [c7, c8, c9] at a7 <;> (first | rw [if_pos (a5.mpr rfl)] | rw [if_neg (fun z => by cases a5.mp z)]) <;> (first | rw [if_pos (a6.mpr rfl)] | rw [if_neg (fun z => by cases a6.mp z)]) <;> (first | rw [if_pos (a7.mpr (by decide))] | rw [if_neg (fun z => absurd (a7.mp z) (by decide))]) <;> rfl
  rw [← e]
  exact h
