def cI (S0 S : mS) (dn many : Nat) (s : Int32) (m : mM) (sn hd : Nat → Int32) : Prop := Fr cFS cAS S0 S ∧ cV S = m ∧ S.1 45 = s ∧ S.1 46 = nI dn ∧ S.1 47 = nI many ∧ S.1 48 = 3 ∧ S.1 49 = 0 ∧ S.1 50 = 0 ∧ S.1 51 = -3 ∧ S.1 162 = S0.1 162 + nI dn ∧ S.2.2 260 = sn ∧ S.2.2 261 = hd
/-- as the class leaves a run -/
def cE (S0 S : mS) (r : rR) : Prop := Fr cFS cAS S0 S ∧ S.1 48 = r.1 ∧ S.1 46 = nI r.2.1 ∧ S.1 49 = r.2.2.1 ∧ S.1 50 = r.2.2.2.1 ∧ S.1 51 = r.2.2.2.2.1 ∧ cV S = r.2.2.2.2.2.1 ∧ S.2.2 260 = r.2.2.2.2.2.2.1 ∧ S.2.2 261 = r.2.2.2.2.2.2.2 ∧ S.1 162 = S0.1 162 + nI r.2.1
theorem s_go_exit {d : Nat} {S : mS} {Q : mQ} {t x y : Int32} (h3 : ¬ S.1 48 = 3) (h : Q (some (.int (S.1 48))) S) : Wp d n_X1_go 8 [(3, .int t), (0, .ref 1), (1, .int x), (2, .int y)] [] S Q := by
  repeat refine Wp.p rfl ?_
  refine Wp.b rfl (fun _ => ?_) (fun _ => ?_)
  · repeat refine Wp.p rfl ?_
    exact Wp.r rfl trivial h
  · repeat refine Wp.p rfl ?_
    refine Wp.b rfl (fun _ => ?_) (fun (c : ¬ ¬ S.1 48 = 3) => absurd h3 c)
    repeat refine Wp.p rfl ?_
    exact Wp.r rfl trivial h
theorem nI_add1 (a : Int32) (n : Nat) : a + nI n + 1 = a + nI (n + 1) := by
  rw [Int32.add_assoc, nI_1]
set_option maxHeartbeats 1000000 in
theorem s_go_loop {d n : Nat} {Q : mQ} {x y : Int32} (S0 : mS) (hP : cP S0 n) : ∀ (left dn many k0 : Nat) (s : Int32) (m : mM) (sn hd : Nat → Int32) (S : mS), dn + left = 200 → many ≤ 8 → WFk k0 m → cI S0 S dn many s m sn hd → (∀ S', cE S0 S' (rnF n (S0.2.2 220) (S0.2.2 221) (S0.2.2 222) (S0.2.2 223) (S0.2.2 224) left dn s many m sn hd) → Q (some (.int (rnF n (S0.2.2 220) (S0.2.2 221) (S0.2.2 222) (S0.2.2 223) (S0.2.2 224) left dn s many m sn hd).1)) S') →
    Wp (d + 6) n_X1_go 8 [(3, .int (nI dn)), (0, .ref 1), (1, .int x), (2, .int y)] [] S Q := by
  intro left
  induction left with
  | zero =>
    intro dn many k0 s m sn hd S hdn hmany hW hI hQ
    obtain ⟨hF, i1, i2, i3, i4, i5, i6, i7, i8, i9, i10, i11⟩ := hI
    obtain rfl : dn = 200 := by omega
    have h125 : S.1 125 = nI n := (hF.1 125 (by decide)).trans hP.1
    repeat refine Wp.p rfl ?_
    refine Wp.b rfl (fun (c : (200 : Int32) < nI 200) => absurd c (by decide)) (fun _ => ?_)
    repeat refine Wp.p rfl ?_
    refine Wp.b rfl (fun (c : ¬ S.1 48 = 3) => absurd i5 c) (fun _ => ?_)
    repeat refine Wp.p rfl ?_
    refine Wp.i rfl (s_P_has ?_)
    rw [i2, h125]
    by_cases c : 0 ≤ s ∧ s < nI n
    · rw [bI_t c]
      refine Wp.b rfl (fun _ => ?_) (fun (e : ¬ ¬ (1 : Int32) = 0) => absurd (by decide) e)
      repeat refine Wp.p rfl ?_
      refine Wp.b rfl (fun (e : ¬ nI 200 = 200) => absurd rfl e) (fun _ => ?_)
      iterate 6 refine Wp.p rfl ?_
      have e : rnF n (S0.2.2 220) (S0.2.2 221) (S0.2.2 222) (S0.2.2 223) (S0.2.2 224) 0 200 s many m sn hd = (2, 200, 0, 0, -3, m, sn, hd) := if_pos c
      rw [e] at hQ
      exact s_go_exit (show ¬ (2 : Int32) = 3 by decide) (hQ _ ⟨hF.f (by decide), rfl, i3, i6, i7, i8, i1, i10, i11, i9⟩)
    · rw [bI_f c]
      refine Wp.b rfl (fun (e : ¬ (0 : Int32) = 0) => absurd rfl e) (fun _ => ?_)
      iterate 6 refine Wp.p rfl ?_
      have e : rnF n (S0.2.2 220) (S0.2.2 221) (S0.2.2 222) (S0.2.2 223) (S0.2.2 224) 0 200 s many m sn hd = (0, 200, 0, 0, -3, m, sn, hd) := if_neg c
      rw [e] at hQ
      exact s_go_exit (show ¬ (0 : Int32) = 3 by decide) (hQ _ ⟨hF.f (by decide), rfl, i3, i6, i7, i8, i1, i10, i11, i9⟩)
  | succ left ih =>
    intro dn many k0 s m sn hd S hdn hmany hW hI hQ
    obtain ⟨hF, i1, i2, i3, i4, i5, i6, i7, i8, i9, i10, i11⟩ := hI
    have h125 : S.1 125 = nI n := (hF.1 125 (by decide)).trans hP.1
    repeat refine Wp.p rfl ?_
    refine Wp.b rfl (fun (c : (200 : Int32) < nI dn) => absurd c (nI_nlt (a := 200) (b := dn) (by omega) (by decide))) (fun _ => ?_)
    repeat refine Wp.p rfl ?_
    refine Wp.b rfl (fun (c : ¬ S.1 48 = 3) => absurd i5 c) (fun _ => ?_)
    repeat refine Wp.p rfl ?_
    refine Wp.i rfl (s_P_has ?_)
    rw [i2, h125]
    by_cases c : 0 ≤ s ∧ s < nI n
    · rw [bI_t c]
      refine Wp.b rfl (fun _ => ?_) (fun (e : ¬ ¬ (1 : Int32) = 0) => absurd (by decide) e)
      repeat refine Wp.p rfl ?_
      refine Wp.b rfl (fun _ => ?_) (fun (e : ¬ ¬ nI dn = 200) => absurd (fun z => absurd ((nI_eq (a := dn) (b := 200) (by omega) (by decide)).mp z) (by omega)) e)
      repeat refine Wp.p rfl ?_
      rw [i2]
      obtain ⟨i, hi0, rfl⟩ := nI_of (Int32.not_lt.mpr c.1)
      have hn32 := hP.2.1
      have hi : i < n := (nI_ltI hi0 (by omega)).mp c.2
      have tis : tn (nI i) = i := tn_nI (by omega)
      obtain ⟨⟨k, hk, hw⟩, -⟩ := hP.2.2 i hi
      have hk24 := hw.1
      have p0 : S.2.2 220 = S0.2.2 220 := hF.2.2 220 (by decide)
      have p1 : S.2.2 221 = S0.2.2 221 := hF.2.2 221 (by decide)
      have p2 : S.2.2 222 = S0.2.2 222 := hF.2.2 222 (by decide)
      have p3 : S.2.2 223 = S0.2.2 223 := hF.2.2 223 (by decide)
      have p4 : S.2.2 224 = S0.2.2 224 := hF.2.2 224 (by decide)
      have tk : tn (S0.2.2 220 i) = k := by rw [hk]; exact tn_nI (by omega)
      have hcP : cP S n := ⟨h125, by rw [p0, p1, p2, p3, p4]; exact hP.2⟩
      obtain ⟨k', hW'⟩ := WF_do hW hw
      have eR : rnF n (S0.2.2 220) (S0.2.2 221) (S0.2.2 222) (S0.2.2 223) (S0.2.2 224) (left + 1) dn (nI i) many m sn hd = _ := if_pos c
      rw [tis, tk] at eR
      refine Wp.i rfl (s_M_takeStep (k0 := k0) (by rw [i1]; exact hW) hcP hi (by rw [p0]; exact hk) (by rw [p1, p2, p3]; exact hw) i4 (by omega) ?_ ?_ ?_ ?_)
      · rw [i1, p1, p2, p3, i10, i11, i6, i7, i8, i5]
        intro f0 S' hN
        obtain ⟨nF, n1, n2, n3, n4, n5, n6, n7, n8, n9, n10, n11⟩ := hN
        rw [i3, nI_1] at n3
        rw [i9, nI_add1] at n9
        iterate 2 refine Wp.p rfl ?_
        show Wp (d + 6) n_X1_go 8 [(3, .int (nI dn + 1)), (0, .ref 1), (1, .int x), (2, .int y)] [] S' Q
        rw [nI_1]
        rw [if_pos f0] at eR
        by_cases k23 : k = 23
        · rw [if_pos k23] at eR n5 n6
          rw [eR] at hQ
          exact s_go_exit (by rw [n5]; decide) (by rw [n5]; exact hQ S' ⟨hF.tr nF, n5, n3, n6, n7, n8, n1, n10, n11, n9⟩)
        · rw [if_neg k23] at eR n5 n6
          rw [eR] at hQ
          exact ih (dn + 1) many k' _ _ _ _ S' (by omega) hmany hW' ⟨hF.tr nF, n1, n2, n3, n4, n5, n6, n7, n8, n9, n10, n11⟩ hQ
      · rw [i1, p1, p2, p3, i10, i11, i6, i7, i8]
        intro f0 h8 S' hN
        obtain ⟨nF, n1, n2, n3, n4, n5, n6, n7, n8, n9, n10, n11⟩ := hN
        rw [i3, nI_1] at n3
        rw [i9, nI_add1] at n9
        iterate 2 refine Wp.p rfl ?_
        rw [if_neg f0, if_pos h8] at eR
        rw [eR] at hQ
        exact s_go_exit (t := nI dn + 1) (by rw [n5]; decide) (by rw [n5]; exact hQ S' ⟨hF.tr nF, n5, n3, n6, n7, n8, n1, n10, n11, n9⟩)
      · rw [i1, p1, p2, p3, p4, i10, i11, i6]
        intro f0 h8 hh S' hN
        obtain ⟨nF, n1, n2, n3, n4, n5, n6, n7, n8, n9, n10, n11⟩ := hN
        rw [i3, nI_1] at n3
        rw [i9, nI_add1] at n9
        iterate 2 refine Wp.p rfl ?_
        rw [if_neg f0, if_neg h8, if_pos hh] at eR
        rw [eR] at hQ
        exact s_go_exit (t := nI dn + 1) (by rw [n5]; decide) (by rw [n5]; exact hQ S' ⟨hF.tr nF, n5, n3, n6, n7, n8, n1, n10, n11, n9⟩)
      · rw [i1, p1, p2, p3, p4, i10, i11, i6, i7, i8, i5]
        intro f0 h8 hh S' hN
        obtain ⟨nF, n1, n2, n3, n4, n5, n6, n7, n8, n9, n10, n11⟩ := hN
        rw [i3, nI_1] at n3
        rw [i9, nI_add1] at n9
        iterate 2 refine Wp.p rfl ?_
        show Wp (d + 6) n_X1_go 8 [(3, .int (nI dn + 1)), (0, .ref 1), (1, .int x), (2, .int y)] [] S' Q
        rw [nI_1]
        rw [if_neg f0, if_neg h8, if_neg hh] at eR
        rw [eR] at hQ
        exact ih (dn + 1) (many + 1) k' _ _ _ _ S' (by omega) (by omega) (WF_N hW') ⟨hF.tr nF, n1, n2, n3, n4, n5, n6, n7, n8, n9, n10, n11⟩ hQ
    · rw [bI_f c]
      refine Wp.b rfl (fun (e : ¬ (0 : Int32) = 0) => absurd rfl e) (fun _ => ?_)
      iterate 6 refine Wp.p rfl ?_
      have e : rnF n (S0.2.2 220) (S0.2.2 221) (S0.2.2 222) (S0.2.2 223) (S0.2.2 224) (left + 1) dn s many m sn hd = (0, dn, 0, 0, -3, m, sn, hd) := if_neg c
      rw [e] at hQ
      exact s_go_exit (t := nI dn + 1) (show ¬ (0 : Int32) = 3 by decide) (hQ _ ⟨hF.f (by decide), rfl, i3, i6, i7, i8, i1, i10, i11, i9⟩)
