theorem s_O_isReached {d s : Nat} {S : mS} {Q : mQ} (hs : s < 32) (h : Q (some (.int (bI ((cO S).2.2 s = true)))) S) : Ev d n_X2_isReached [.ref 2, .int (nI s)] S Q := by
  iterate 6 refine Wp.p rfl ?_
  refine Wp.b rfl (fun (c : (((S.1 84).toUInt32 >>> ((nI s).toUInt32 &&& Int32.toUInt32 31)).toInt32 &&& 1 = 0)) => ?_) (fun (c : ¬ (((S.1 84).toUInt32 >>> ((nI s).toUInt32 &&& Int32.toUInt32 31)).toInt32 &&& 1 = 0)) => ?_)
  · have c' := (uB_hb hs).mp c
    rw [bI_f (show ¬ (cO S).2.2 s = true from fun z => by have z : hb (S.1 84) s = true := z; rw [c'] at z; cases z)] at h
    iterate 1 refine Wp.p rfl ?_
    exact Wp.r rfl (Or.inl rfl) h
  · have c' : hb (S.1 84) s = true := by
      cases e : hb (S.1 84) s with
      | true => rfl
      | false => exact absurd ((uB_hb hs).mpr e) c
    rw [bI_t (show (cO S).2.2 s = true from c')] at h
    iterate 2 refine Wp.p rfl ?_
    exact Wp.r rfl (Or.inr rfl) h
abbrev inS (P : oP) (s : Int32) : Prop := 0 ≤ s ∧ s < nI P.1
theorem inS_i {P : oP} {s : Int32} (hn : P.1 ≤ 32) (h : inS P s) : ∃ i, i < P.1 ∧ s = nI i ∧ tn s = i := by
  obtain ⟨i, hi0, rfl⟩ := nI_of (Int32.not_lt.mpr h.1)
  exact ⟨i, (nI_ltI hi0 (by omega)).mp h.2, rfl, tn_nI hi0⟩
/-- what is told, from the sets -/
def aMay (P : oP) (T : oT) (s v : Int32) (x : Int32) : Prop := (inS P s ∧ 0 ≤ v ∧ v < 6 → x = T.1 (6 * tn s + tn v)) ∧ (¬ (inS P s ∧ 0 ≤ v ∧ v < 6) → x = -1)
def aFlt (P : oP) (T : oT) (s : Int32) (x : Int32) : Prop := (inS P s → x = if T.2.2 (tn s) = true then oFt P T (tn s) else 0) ∧ (¬ inS P s → x = -1)
def castA (m K : Int32) : Int32 := if m &&& (K ||| 1) = m then 0 else if m &&& (K ||| 1) = 0 then 2 else 1
def aCst (P : oP) (T : oT) (s : Int32) (x : Int32) : Prop := (inS P s → x = if P.2.1 (tn s) = 6 ∧ T.2.2 (tn s) = true then castA (T.1 (6 * tn s + tn (P.2.2.1 (tn s)))) (m_sv 500 (tn (P.2.2.2.1 (tn s)))) else -3) ∧ (¬ inS P s → x = -1)
def aAll (T : oT) (w : Int32) (x : Int32) : Prop := (0 ≤ w ∧ w ≤ 2 → x = T.2.1 (tn w)) ∧ (¬ (0 ≤ w ∧ w ≤ 2) → x = -2)
def cL (P : oP) (S S' : mS) : Prop := Fr [84, 85, 86] [181, 182, 183] S S' ∧ ¬ S'.1 86 = 0 ∧ Lst P (cO S')
theorem s_C_may {d : Nat} {S : mS} {Q : mQ} {P : oP} {s v : Int32} (hq : oQ P S) (hl : ¬ S.1 86 = 0 → Lst P (cO S)) (h : ∀ S' x, cL P S S' → aMay P (cO S') s v x → Q (some (.int x)) S') : Ev (d + 7) n_X5_may [.ref 5, .int s, .int v] S Q := by
  have hn := hq.1.1
  iterate 2 refine Wp.p rfl ?_
  refine Wp.i rfl (s_O_settle hq hl (fun S' hF h86 hL => ?_))
  have h125 : S'.1 125 = nI P.1 := by rw [hF.1 125 (by decide)]; exact hq.2.1
  iterate 3 refine Wp.p rfl ?_
  refine Wp.i rfl (s_P_has ?_)
  rw [h125]
  refine Wp.b rfl (fun (c : bI (0 ≤ s ∧ s < nI P.1) = 0) => ?_) (fun (c : ¬ bI (0 ≤ s ∧ s < nI P.1) = 0) => ?_)
  · iterate 1 refine Wp.p rfl ?_
    exact Wp.r rfl trivial (h S' (-1) ⟨hF, h86, hL⟩ ⟨fun z => absurd z.1 (bI_0.mp c), fun _ => rfl⟩)
  have cs : inS P s := Decidable.not_not.mp (fun z => c (bI_0.mpr z))
  iterate 1 refine Wp.p rfl ?_
  refine Wp.i rfl (s_isVariable ?_)
  refine Wp.b rfl (fun (c : bI (0 ≤ v ∧ v < 6) = 0) => ?_) (fun (c : ¬ bI (0 ≤ v ∧ v < 6) = 0) => ?_)
  · iterate 1 refine Wp.p rfl ?_
    exact Wp.r rfl trivial (h S' (-1) ⟨hF, h86, hL⟩ ⟨fun z => absurd z.2 (bI_0.mp c), fun _ => rfl⟩)
  have cv : 0 ≤ v ∧ v < 6 := Decidable.not_not.mp (fun z => c (bI_0.mpr z))
  obtain ⟨i, hi, rfl, ti⟩ := inS_i hn cs
  iterate 4 refine Wp.p rfl ?_
  refine Wp.i rfl (s_O_kindsAt (by omega) (in_of (n := 6) cv (by decide)) ?_)
  iterate 1 refine Wp.p rfl ?_
  exact Wp.r rfl trivial (h S' _ ⟨hF, h86, hL⟩ ⟨fun _ => by rw [ti]; rfl, fun z => absurd ⟨cs, cv⟩ z⟩)
theorem s_C_faults {d : Nat} {S : mS} {Q : mQ} {P : oP} {s : Int32} (hq : oQ P S) (hl : ¬ S.1 86 = 0 → Lst P (cO S)) (h : ∀ S' x, cL P S S' → aFlt P (cO S') s x → Q (some (.int x)) S') : Ev (d + 7) n_X5_faults [.ref 5, .int s] S Q := by
  have hn := hq.1.1
  iterate 2 refine Wp.p rfl ?_
  refine Wp.i rfl (s_O_settle hq hl (fun S' hF h86 hL => ?_))
  have hq' : oQ P S' := hq.fr hF (by decide) (by decide)
  iterate 3 refine Wp.p rfl ?_
  refine Wp.i rfl (s_P_has ?_)
  rw [hq'.2.1]
  refine Wp.b rfl (fun (c : bI (0 ≤ s ∧ s < nI P.1) = 0) => ?_) (fun (c : ¬ bI (0 ≤ s ∧ s < nI P.1) = 0) => ?_)
  · iterate 1 refine Wp.p rfl ?_
    exact Wp.r rfl trivial (h S' (-1) ⟨hF, h86, hL⟩ ⟨fun z => absurd z (bI_0.mp c), fun _ => rfl⟩)
  have cs : inS P s := Decidable.not_not.mp (fun z => c (bI_0.mpr z))
  obtain ⟨i, hi, rfl, ti⟩ := inS_i hn cs
  iterate 3 refine Wp.p rfl ?_
  refine Wp.i (d := d + 6) rfl ?_
  iterate 2 refine Wp.p rfl ?_
  refine Wp.i rfl (s_O_isReached (by omega) ?_)
  refine Wp.b rfl (fun (c : bI ((cO S').2.2 i = true) = 0) => ?_) (fun (c : ¬ bI ((cO S').2.2 i = true) = 0) => ?_)
  · iterate 1 refine Wp.p rfl ?_
    refine Wp.r rfl trivial ?_
    iterate 1 refine Wp.p rfl ?_
    exact Wp.r rfl trivial (h S' _ ⟨hF, h86, hL⟩ ⟨fun _ => by rw [ti, if_neg (bI_0.mp c)], fun z => absurd cs z⟩)
  · have cc : (cO S').2.2 i = true := Decidable.not_not.mp (fun z => c (bI_0.mpr z))
    iterate 2 refine Wp.p rfl ?_
    refine Wp.i rfl (s_O_faultsOf hq' hi ?_)
    iterate 1 refine Wp.p rfl ?_
    refine Wp.r rfl trivial ?_
    iterate 1 refine Wp.p rfl ?_
    exact Wp.r rfl trivial (h S' _ ⟨hF, h86, hL⟩ ⟨fun _ => by rw [ti, if_pos cc], fun z => absurd cs z⟩)
theorem castA_eq {m K : Int32} (hm : ¬ m = 0) : castA m K = if sh m (K ||| 1) then (if sh m ((K ||| 1) ^^^ -1) then 1 else 0) else 2 := by
  unfold castA
  by_cases c : sh m (K ||| 1)
  · rw [if_pos c]
    by_cases c2 : sh m ((K ||| 1) ^^^ -1)
    · rw [if_pos c2, if_neg (fun z => le_sh.mp (le_and.mpr z) c2), if_neg c]
    · rw [if_neg c2, if_pos (le_and.mp (le_sh.mpr c2))]
  · have c' : m &&& (K ||| 1) = 0 := Decidable.not_not.mp c
    rw [if_neg c, if_neg (fun z => hm (by rw [← z]; exact c')), if_pos c']
theorem s_C_cast {d : Nat} {S : mS} {Q : mQ} {P : oP} {s : Int32} (hq : oQ P S) (hl : ¬ S.1 86 = 0 → Lst P (cO S)) (h : ∀ S' x, cL P S S' → aCst P (cO S') s x → Q (some (.int x)) S') : Ev (d + 7) n_X5_cast [.ref 5, .int s] S Q := by
  have hn := hq.1.1
  iterate 2 refine Wp.p rfl ?_
  refine Wp.i rfl (s_O_settle hq hl (fun S' hF h86 hL => ?_))
  have hq' : oQ P S' := hq.fr hF (by decide) (by decide)
  iterate 3 refine Wp.p rfl ?_
  refine Wp.i rfl (s_P_has ?_)
  rw [hq'.2.1]
  refine Wp.b rfl (fun (c : bI (0 ≤ s ∧ s < nI P.1) = 0) => ?_) (fun (c : ¬ bI (0 ≤ s ∧ s < nI P.1) = 0) => ?_)
  · iterate 1 refine Wp.p rfl ?_
    exact Wp.r rfl trivial (h S' (-1) ⟨hF, h86, hL⟩ ⟨fun z => absurd z (bI_0.mp c), fun _ => rfl⟩)
  have cs : inS P s := Decidable.not_not.mp (fun z => c (bI_0.mpr z))
  obtain ⟨i, hi, rfl, ti⟩ := inS_i hn cs
  obtain ⟨-, -, e0, e1, e2, e3, e4⟩ := hq'
  obtain ⟨⟨k, hk, hw⟩, -⟩ := hq.1.2 i hi
  have is : vp_in (nI i) 32 := vp_in_nI (N := 32) (by omega) (by omega)
  -- back in cast
  have fin : ∀ x : Int32, x = (if P.2.1 i = 6 ∧ (cO S').2.2 i = true then castA ((cO S').1 (6 * i + tn (P.2.2.1 i))) (m_sv 500 (tn (P.2.2.2.1 i))) else -3) → Q (some (.int x)) S' := fun x hx => h S' x ⟨hF, h86, hL⟩ ⟨fun _ => by rw [ti]; exact hx, fun z => absurd cs z⟩
  iterate 3 refine Wp.p rfl ?_
  refine Wp.i (d := d + 6) rfl ?_
  iterate 4 refine Wp.p rfl ?_
  refine Wp.g rfl is ?_
  iterate 1 refine Wp.p rfl ?_
  refine Wp.b rfl (fun (c : ¬ S'.2.2 220 (tn (nI i)) = 6) => ?_) (fun (c : ¬ ¬ S'.2.2 220 (tn (nI i)) = 6) => ?_)
  · rw [ti, e0] at c
    iterate 1 refine Wp.p rfl ?_
    refine Wp.r rfl trivial ?_
    iterate 1 refine Wp.p rfl ?_
    exact Wp.r rfl trivial (fin _ (if_neg (fun z => c z.1)).symm)
  have c6 : P.2.1 i = 6 := by rw [ti, e0] at c; exact Decidable.not_not.mp c
  have k6 : k = 6 := by
    have hk24 := hw.1
    rw [c6] at hk
    have := congrArg tn hk
    rw [tn_nI (by omega)] at this
    exact this.symm
  subst k6
  have va : vp_in (P.2.2.1 i) 6 := in_of (n := 6) (hw.2.1.1 rfl) (by decide)
  have vb : vp_in (P.2.2.2.1 i) 11 := in_of (n := 11) (hw.2.2.1.2.2.2.2.1 rfl) (by decide)
  iterate 2 refine Wp.p rfl ?_
  refine Wp.i rfl (s_O_isReached (by omega) ?_)
  refine Wp.b rfl (fun (c : ¬ bI ((cO S').2.2 i = true) = 0) => ?_) (fun (c : ¬ ¬ bI ((cO S').2.2 i = true) = 0) => ?_)
  case refine_2 =>
    iterate 1 refine Wp.p rfl ?_
    refine Wp.r rfl trivial ?_
    iterate 1 refine Wp.p rfl ?_
    exact Wp.r rfl trivial (fin _ (if_neg (fun z => bI_0.mp (Decidable.not_not.mp c) z.2)).symm)
  have cc : (cO S').2.2 i = true := Decidable.not_not.mp (fun z => c (bI_0.mpr z))
  rw [show (if P.2.1 i = 6 ∧ (cO S').2.2 i = true then castA ((cO S').1 (6 * i + tn (P.2.2.1 i))) (m_sv 500 (tn (P.2.2.2.1 i))) else -3) = castA ((cO S').1 (6 * i + tn (P.2.2.1 i))) (m_sv 500 (tn (P.2.2.2.1 i))) from if_pos ⟨c6, cc⟩, castA_eq (hL.2.2.2 i (by omega) cc _ (V6 va (by decide)).1)] at fin
  iterate 6 refine Wp.p rfl ?_
  refine Wp.g rfl is ?_
  refine (?_ : Wp (d + 6) n_X2_castAt 36 [(0, .ref 2), (1, .int (nI i))] [.int (S'.2.2 221 (tn (nI i))), .int (nI i), .ref 2] S' _)
  rw [ti, e1]
  refine Wp.i rfl (s_O_kindsAt (by omega) va ?_)
  iterate 6 refine Wp.p rfl ?_
  refine Wp.g rfl is ?_
  refine (?_ : Wp (d + 6) n_X2_castAt 52 [(2, .int (S'.2.2 181 (6 * i + tn (P.2.2.1 i)))), (0, .ref 2), (1, .int (nI i))] [.int (S'.2.2 222 (tn (nI i))), .ref 500] S' _)
  rw [ti, e2]
  refine Wp.g rfl vb ?_
  iterate 5 refine Wp.p rfl ?_
  refine Wp.i rfl (s_shareI (x := S'.2.2 181 (6 * i + tn (P.2.2.1 i))) (y := m_sv 500 (tn (P.2.2.2.1 i)) ||| 1) ?_)
  refine Wp.b rfl (fun (z : ¬ bI (sh (S'.2.2 181 (6 * i + tn (P.2.2.1 i))) (m_sv 500 (tn (P.2.2.2.1 i)) ||| 1)) = 0) => ?_) (fun (z : ¬ ¬ bI (sh (S'.2.2 181 (6 * i + tn (P.2.2.1 i))) (m_sv 500 (tn (P.2.2.2.1 i)) ||| 1)) = 0) => ?_)
  case refine_2 =>
    iterate 1 refine Wp.p rfl ?_
    refine Wp.r rfl trivial ?_
    iterate 1 refine Wp.p rfl ?_
    exact Wp.r rfl trivial (fin _ (if_neg (bI_0.mp (Decidable.not_not.mp z))).symm)
  have z1 : sh (S'.2.2 181 (6 * i + tn (P.2.2.1 i))) (m_sv 500 (tn (P.2.2.2.1 i)) ||| 1) := Decidable.not_not.mp (fun y => z (bI_0.mpr y))
  rw [show (if sh ((cO S').1 (6 * i + tn (P.2.2.1 i))) (m_sv 500 (tn (P.2.2.2.1 i)) ||| 1) then (if sh ((cO S').1 (6 * i + tn (P.2.2.1 i))) ((m_sv 500 (tn (P.2.2.2.1 i)) ||| 1) ^^^ -1) then (1 : Int32) else 0) else 2) = (if sh ((cO S').1 (6 * i + tn (P.2.2.1 i))) ((m_sv 500 (tn (P.2.2.2.1 i)) ||| 1) ^^^ -1) then (1 : Int32) else 0) from if_pos z1] at fin
  iterate 4 refine Wp.p rfl ?_
  refine Wp.i rfl (s_shareI (x := S'.2.2 181 (6 * i + tn (P.2.2.1 i))) (y := (m_sv 500 (tn (P.2.2.2.1 i)) ||| 1) ^^^ -1) ?_)
  refine Wp.b rfl (fun (z : bI (sh (S'.2.2 181 (6 * i + tn (P.2.2.1 i))) ((m_sv 500 (tn (P.2.2.2.1 i)) ||| 1) ^^^ -1)) = 0) => ?_) (fun (z : ¬ bI (sh (S'.2.2 181 (6 * i + tn (P.2.2.1 i))) ((m_sv 500 (tn (P.2.2.2.1 i)) ||| 1) ^^^ -1)) = 0) => ?_)
  · iterate 1 refine Wp.p rfl ?_
    refine Wp.r rfl trivial ?_
    iterate 1 refine Wp.p rfl ?_
    exact Wp.r rfl trivial (fin _ (if_neg (bI_0.mp z)).symm)
  · iterate 2 refine Wp.p rfl ?_
    refine Wp.r rfl trivial ?_
    iterate 1 refine Wp.p rfl ?_
    exact Wp.r rfl trivial (fin _ (if_pos (Decidable.not_not.mp (fun y => z (bI_0.mpr y)))).symm)
theorem s_C_all {d : Nat} {S : mS} {Q : mQ} {P : oP} {w : Int32} (hq : oQ P S) (hl : ¬ S.1 86 = 0 → Lst P (cO S)) (h : ∀ S' x, cL P S S' → aAll (cO S') w x → Q (some (.int x)) S') : Ev (d + 7) n_X5_all [.ref 5, .int w] S Q := by
  iterate 2 refine Wp.p rfl ?_
  refine Wp.i rfl (s_O_settle hq hl (fun S' hF h86 hL => ?_))
  have out : ¬ (0 ≤ w ∧ w ≤ 2) → Wp (d + 7) n_X5_all 16 [(0, .ref 5), (1, .int w)] [] S' Q := fun z => by
    iterate 2 refine Wp.p rfl ?_
    exact Wp.r rfl trivial (h S' _ ⟨hF, h86, hL⟩ ⟨fun y => absurd y z, fun _ => rfl⟩)
  iterate 1 refine Wp.p rfl ?_
  refine Wp.b rfl (fun (c : w < 0) => out (fun z => Int32.not_lt.mpr z.1 c)) (fun (c : ¬ w < 0) => ?_)
  iterate 2 refine Wp.p rfl ?_
  refine Wp.b rfl (fun (c2 : w ≤ 2) => ?_) (fun (c2 : ¬ w ≤ 2) => out (fun z => c2 z.2))
  obtain ⟨j, hj0, rfl⟩ := nI_of c
  have hj : j ≤ 2 := (nI_leI (b := 2) hj0 (by decide)).mp c2
  have tj : tn (nI j) = j := tn_nI hj0
  iterate 3 refine Wp.p rfl ?_
  refine Wp.i (d := d + 6) rfl ?_
  iterate 3 refine Wp.p rfl ?_
  refine Wp.g rfl (vp_in_nI (N := 3) (by omega) (by omega)) ?_
  refine Wp.r rfl trivial ?_
  exact Wp.r rfl trivial (h S' _ ⟨hF, h86, hL⟩ ⟨fun _ => rfl, fun y => absurd ⟨nI_pos' hj0, c2⟩ y⟩)
