theorem s_m_goOn {d s : Nat} {S : mS} {Q : mQ} {P : oP} (hc : MI P S) (hs : s < P.1) (hr : (mO S).2.2 s = true) (h : ∀ S', mGo P s S S' → Q none S') : Ev (d + 2) n_X6_goOn [.ref 6, .int (nI s)] S Q := by
  have hn := hc.1.1.1
  have ts : tn (nI s) = s := tn_nI (by omega)
  have is : vp_in (nI s) 32 := vp_in_nI (N := 32) (by omega) (by omega)
  iterate 2 refine Wp.p rfl ?_
  refine Wp.i rfl (s_m_takes (by omega) (fun S1 f1 b1 => ?_))
  have c1 : MI P S1 := hc.af f1
  have em : mO S1 = mO S := mO_af f1
  have h' : ∀ S', mGo P s S1 S' → Q none S' := fun S' z => h S' ⟨(Gm.af f1).tr z.1, z.2⟩
  have hr1 : (mO S1).2.2 s = true := by rw [em]; exact hr
  have hrow : ∀ v, v < 6 → S1.2.2 370 v = tR (mO S1) s v := fun v hv => by rw [b1 v hv, em]; exact rwM_tR v hv
  clear h hc hr b1 em
  obtain ⟨hP, h241, e0, e1, e2, e3, e4⟩ := c1.1
  obtain ⟨⟨k, hk, hw⟩, -⟩ := hP.2 s hs
  have hk24 := hw.1
  have tk : tn (P.2.1 s) = k := by rw [hk]; exact tn_nI (by omega)
  obtain ⟨r1, r2, r3, r4⟩ := c1.2.1.rg hP
  have eE : oEg P (mO S1) s = egF k (nI (s + 1)) (P.2.2.1 s) (P.2.2.2.1 s) (P.2.2.2.2.1 s) (tA (mO S1)) (tR (mO S1) s) := by unfold oEg; rw [tk]
  have eA : oAd P (mO S1) s = adS k (P.2.2.1 s) (P.2.2.2.1 s) (tA (mO S1)) (tR (mO S1) s) := by unfold oAd; rw [tk]
  have hal : ∀ w, w < 3 → tA (mO S1) w = S1.2.2 368 w := fun w hw => tA_mO hw
  have k85 : ∀ z : Int32, z = xB k (tR (mO S1) s) (P.2.2.2.1 s) → Wp (d + 2) n_X6_goOn 85 [(5, .int (xA k (tR (mO S1) s) (P.2.2.1 s))), (4, .int (P.2.2.2.2.1 s)), (3, .int (P.2.2.2.1 s)), (2, .int (P.2.2.1 s)), (0, .ref 6), (1, .int (nI s))] [.int z] S1 Q := fun z hz => by
    rw [hz]
    iterate 4 refine Wp.p rfl ?_
    refine Wp.g rfl is ?_
    refine (?_ : Wp (d + 2) n_X6_goOn 93 [(6, .int (xB k (tR (mO S1) s) (P.2.2.2.1 s))), (5, .int (xA k (tR (mO S1) s) (P.2.2.1 s))), (4, .int (P.2.2.2.2.1 s)), (3, .int (P.2.2.2.1 s)), (2, .int (P.2.2.1 s)), (0, .ref 6), (1, .int (nI s))] [.int (S1.2.2 342 (tn (nI s)))] S1 Q)
    rw [ts, e0, hk]
    have cases24 : k = 0 ∨ k = 1 ∨ k = 2 ∨ k = 3 ∨ k = 4 ∨ k = 5 ∨ k = 6 ∨ k = 7 ∨ k = 8 ∨ k = 9 ∨ k = 10 ∨ k = 11 ∨ k = 12 ∨ k = 13 ∨ k = 14 ∨ k = 15 ∨ k = 16 ∨ k = 17 ∨ k = 18 ∨ k = 19 ∨ k = 20 ∨ k = 21 ∨ k = 22 ∨ k = 23 := by omega
    rcases cases24 with rfl | rfl | rfl | rfl | rfl | rfl | rfl | rfl | rfl | rfl | rfl | rfl | rfl | rfl | rfl | rfl | rfl | rfl | rfl | rfl | rfl | rfl | rfl | rfl
    · exact s_m_goOn_k0 hw c1 hs hr1 hrow hal eE eA r4 h'
    · exact s_m_goOn_k1 hw c1 hs hr1 hrow hal eE eA r4 h'
    · exact s_m_goOn_k2 hw c1 hs hr1 hrow hal eE eA r4 h'
    · exact s_m_goOn_k3 hw c1 hs hr1 hrow hal eE eA r4 h'
    · exact s_m_goOn_k4 hw c1 hs hr1 hrow hal eE eA r4 h'
    · exact s_m_goOn_k5 hw c1 hs hr1 hrow hal eE eA r4 h'
    · exact s_m_goOn_k6 hw c1 hs hr1 hrow hal eE eA r4 h'
    · exact s_m_goOn_k7 hw c1 hs hr1 hrow hal eE eA r4 h'
    · exact s_m_goOn_k8 hw c1 hs hr1 hrow hal eE eA r4 h'
    · exact s_m_goOn_k9 hw c1 hs hr1 hrow hal eE eA r4 h'
    · exact s_m_goOn_k10 hw c1 hs hr1 hrow hal eE eA r4 h'
    · exact s_m_goOn_k11 hw c1 hs hr1 hrow hal eE eA r4 h'
    · exact s_m_goOn_k12 hw c1 hs hr1 hrow hal eE eA r4 h'
    · exact s_m_goOn_k13 hw c1 hs hr1 hrow hal eE eA r4 h'
    · exact s_m_goOn_k14 hw c1 hs hr1 hrow hal eE eA r4 h'
    · exact s_m_goOn_k15 hw c1 hs hr1 hrow hal eE eA r4 h'
    · exact s_m_goOn_k16 hw c1 hs hr1 hrow hal eE eA r4 h'
    · exact s_m_goOn_k17 hw c1 hs hr1 hrow hal eE eA r4 h'
    · exact s_m_goOn_k18 hw c1 hs hr1 hrow hal eE eA r4 h'
    · exact s_m_goOn_k19 hw c1 hs hr1 hrow hal eE eA r4 h'
    · exact s_m_goOn_k20 hw c1 hs hr1 hrow hal eE eA r4 h'
    · exact s_m_goOn_k21 hw c1 hs hr1 hrow hal eE eA r4 h'
    · exact s_m_goOn_k22 hw c1 hs hr1 hrow hal eE eA r4 tk rfl rfl (fun v hv => rwM_tR v hv) h'
    · exact s_m_goOn_k23 hw c1 hs hr1 hrow hal eE eA r4 h'
  have k55 : ∀ z : Int32, z = xA k (tR (mO S1) s) (P.2.2.1 s) → Wp (d + 2) n_X6_goOn 55 [(4, .int (P.2.2.2.2.1 s)), (3, .int (P.2.2.2.1 s)), (2, .int (P.2.2.1 s)), (0, .ref 6), (1, .int (nI s))] [.int z] S1 Q := fun z hz => by
    rw [hz]
    iterate 4 refine Wp.p rfl ?_
    refine Wp.g rfl is ?_
    refine (?_ : Wp (d + 2) n_X6_goOn 63 [(5, .int (xA k (tR (mO S1) s) (P.2.2.1 s))), (4, .int (P.2.2.2.2.1 s)), (3, .int (P.2.2.2.1 s)), (2, .int (P.2.2.1 s)), (0, .ref 6), (1, .int (nI s))] [.int (S1.2.2 342 (tn (nI s)))] S1 Q)
    rw [ts, e0, hk]
    refine Wp.i rfl (s_m_sortB k hk24 ?_)
    iterate 1 refine Wp.p rfl ?_
    refine Wp.b rfl (fun (c : ¬ srB.getD k 0 = 1) => ?_) (fun (c : ¬ ¬ srB.getD k 0 = 1) => ?_)
    · iterate 1 refine Wp.p rfl ?_
      exact k85 0 (if_neg c).symm
    · have c1 := Decidable.not_not.mp c
      have vb : vp_in (P.2.2.2.1 s) 6 := in_of (n := 6) (hw.2.2.1.1 (srB_V k hk24 c1)) (by decide)
      obtain ⟨lb, eb⟩ := V6 vb (by decide)
      iterate 7 refine Wp.p rfl ?_
      refine (?_ : Wp (d + 2) n_X6_goOn 80 [(5, .int (xA k (tR (mO S1) s) (P.2.2.1 s))), (4, .int (P.2.2.2.2.1 s)), (3, .int (P.2.2.2.1 s)), (2, .int (P.2.2.1 s)), (0, .ref 6), (1, .int (nI s))] [.int (6 * nI s + P.2.2.2.1 s), .ref 366] S1 Q)
      have e6 : 6 * nI s + P.2.2.2.1 s = nI (6 * s + tn (P.2.2.2.1 s)) := by
        have := ix6 s (tn (P.2.2.2.1 s))
        rw [← eb] at this
        exact this
      rw [e6]
      refine Wp.g rfl (vp_in_nI (N := 192) (by omega) (by omega)) ?_
      iterate 1 refine Wp.p rfl ?_
      refine k85 _ ?_
      show S1.2.2 366 (tn (nI (6 * s + tn (P.2.2.2.1 s)))) = xB k (tR (mO S1) s) (P.2.2.2.1 s)
      rw [tn_nI (by omega), rwM_tR _ lb]
      exact (if_pos c1).symm
  iterate 3 refine Wp.p rfl ?_
  refine Wp.g rfl is ?_
  iterate 4 refine Wp.p rfl ?_
  refine Wp.g rfl is ?_
  iterate 4 refine Wp.p rfl ?_
  refine Wp.g rfl is ?_
  iterate 4 refine Wp.p rfl ?_
  refine Wp.g rfl is ?_
  refine (?_ : Wp (d + 2) n_X6_goOn 33 [(4, .int (S1.2.2 345 (tn (nI s)))), (3, .int (S1.2.2 344 (tn (nI s)))), (2, .int (S1.2.2 343 (tn (nI s)))), (0, .ref 6), (1, .int (nI s))] [.int (S1.2.2 342 (tn (nI s)))] S1 Q)
  rw [ts, e0, e1, e2, e3, hk]
  refine Wp.i rfl (s_m_sortA k hk24 ?_)
  iterate 1 refine Wp.p rfl ?_
  refine Wp.b rfl (fun (c : ¬ srA.getD k 0 = 1) => ?_) (fun (c : ¬ ¬ srA.getD k 0 = 1) => ?_)
  · iterate 1 refine Wp.p rfl ?_
    exact k55 0 (if_neg c).symm
  · have c1 := Decidable.not_not.mp c
    have va : vp_in (P.2.2.1 s) 6 := in_of (n := 6) (hw.2.1.1 (srA_V k hk24 c1)) (by decide)
    obtain ⟨la, ea⟩ := V6 va (by decide)
    iterate 7 refine Wp.p rfl ?_
    refine (?_ : Wp (d + 2) n_X6_goOn 50 [(4, .int (P.2.2.2.2.1 s)), (3, .int (P.2.2.2.1 s)), (2, .int (P.2.2.1 s)), (0, .ref 6), (1, .int (nI s))] [.int (6 * nI s + P.2.2.1 s), .ref 366] S1 Q)
    have e6 : 6 * nI s + P.2.2.1 s = nI (6 * s + tn (P.2.2.1 s)) := by
      have := ix6 s (tn (P.2.2.1 s))
      rw [← ea] at this
      exact this
    rw [e6]
    refine Wp.g rfl (vp_in_nI (N := 192) (by omega) (by omega)) ?_
    iterate 1 refine Wp.p rfl ?_
    refine k55 _ ?_
    show S1.2.2 366 (tn (nI (6 * s + tn (P.2.2.1 s)))) = xA k (tR (mO S1) s) (P.2.2.1 s)
    rw [tn_nI (by omega), rwM_tR _ la]
    exact (if_pos c1).symm
-- the passes
def muM (T : oT) : Nat := muT T + smN (fun s => if T.2.2 s = true then 1 else 0) 32
theorem muM_b (T : oT) : muM T ≤ 1982 := by
  have h1 := muT_b T
  have h2 := smN_b (f := fun s => if T.2.2 s = true then 1 else 0) (b := 1) (n := 32) (fun i _ => by
    show (if T.2.2 i = true then 1 else 0) ≤ 1
    split <;> omega)
  unfold muM
  omega
theorem muM_lt {P : oP} {T T' : oT} (h : oLe T T') (g : mGt T T') (hB : Bel P T') (hP : oPW P) : muM T < muM T' := by
  have hle : ∀ i, i < 32 → (fun s => if T.2.2 s = true then 1 else 0) i ≤ (fun s => if T'.2.2 s = true then 1 else 0) i := fun i hi => by
    show (if T.2.2 i = true then 1 else 0) ≤ (if T'.2.2 i = true then 1 else 0)
    by_cases c : T.2.2 i = true
    · rw [if_pos c, if_pos (h.2.2 i hi c)]; exact Nat.le_refl _
    · rw [if_neg c]; exact Nat.zero_le _
  unfold muM
  rcases g with g | ⟨s, hs, a, b⟩
  · have := muT_lt h g hB hP
    have := smN_le hle
    omega
  · have := muT_le h
    have := smN_lt hle hs (by
      show (if T.2.2 s = true then 1 else 0) < (if T'.2.2 s = true then 1 else 0)
      rw [if_neg b, if_pos a]
      decide)
    omega
theorem Gm.cons {P : oP} {S S' : mS} {s : Nat} (g : Gm S S') (hP : oPW P) (hs : s < P.1) (z : S'.1 269 = 0) (h : Cons P (mO S) s) : Cons P (mO S') s := by
  have hn := hP.1
  obtain ⟨-, m⟩ := g.2.2.1 z
  exact h.up hP hs (fun v hv => m.1 _ (by omega)) (fun w hw => m.2.1 w hw) g.2.1
def mP (P : oP) (S0 S : mS) : Prop := Gm S0 S ∧ MI P S ∧ oB P (mO S)
theorem s_m_turn {d j : Nat} {S0 S : mS} {Q : mQ} {P : oP} (hj : j < P.1) (hR : mP P S0 S) (hC : S.1 269 = 0 → ∀ s, s < j → (mO S).2.2 s = true → Cons P (mO S) s)
    (h : ∀ S', mP P S0 S' → (S'.1 269 = 0 → ∀ s, s < j + 1 → (mO S').2.2 s = true → Cons P (mO S') s) → Wp (d + 3) n_X6_tell 127 [(1, .int (nI (j + 1))), (0, .ref 6)] [] S' Q) :
    Wp (d + 3) n_X6_tell 127 [(1, .int (nI j)), (0, .ref 6)] [] S Q := by
  obtain ⟨g0, hc, hB⟩ := hR
  obtain ⟨hP, h241, e0, e1, e2, e3, e4⟩ := hc.1
  have hn := hP.1
  have tj : tn (nI j) = j := tn_nI (by omega)
  have ij : vp_in (nI j) 32 := vp_in_nI (N := 32) (by omega) (by omega)
  have k184 : ∀ S', mP P S0 S' → (S'.1 269 = 0 → ∀ s, s < j + 1 → (mO S').2.2 s = true → Cons P (mO S') s) → Wp (d + 3) n_X6_tell 184 [(1, .int (nI j)), (0, .ref 6)] [] S' Q := fun S' a b => by
    have := h S' a b
    rw [← nI_1] at this
    iterate 2 refine Wp.p rfl ?_
    exact this.sub (lS.mk rfl rfl (by repeat (first | exact lSub.nil | refine lSub.cons rfl ?_)))
  have up : ∀ S', mGo P j S S' → mP P S0 S' := fun S' z => ⟨g0.tr z.1, z.2.1, hB.up z.1.2.1⟩
  iterate 3 refine Wp.p rfl ?_
  refine Wp.b rfl (fun (c : S.1 241 ≤ nI j) => absurd c (by rw [h241]; exact nI_ge hj (by omega))) (fun _ => ?_)
  iterate 3 refine Wp.p rfl ?_
  refine Wp.g rfl ij ?_
  refine Wp.b rfl (fun (c : ¬ S.2.2 367 (tn (nI j)) = 0) => ?_) (fun (c : ¬ ¬ S.2.2 367 (tn (nI j)) = 0) => ?_)
  case refine_2 =>
    rw [tj] at c
    iterate 1 refine Wp.p rfl ?_
    refine k184 S ⟨g0, hc, hB⟩ (fun z s hs e => ?_)
    by_cases y : s = j
    · rw [y] at e; exact absurd (mO_c.mp e) c
    · exact hC z s (by omega) e
  rw [tj] at c
  have hr : (mO S).2.2 j = true := mO_c.mpr c
  iterate 2 refine Wp.p rfl ?_
  refine Wp.i rfl (s_m_goOn hc hj hr (fun S1 m1 => ?_))
  obtain ⟨g1, c1, k1⟩ := m1
  have p1 := up S1 ⟨g1, c1, k1⟩
  have hr1 := g1.2.1.2.2 j (by omega) hr
  have e4' : S1.2.2 346 = P.2.2.2.2.2 := c1.1.2.2.2.2.2.2
  -- what is done, but for the handler
  have done1 : ∀ S3, Gm S1 S3 → MI P S3 → (0 ≤ P.2.2.2.2.2 j → P.2.2.2.2.2 j < nI P.1 → ¬ oFt P (mO S1) j = 0 → oIn (mO S3) (tn (P.2.2.2.2.2 j)) (tR (mO S1) j)) → Wp (d + 3) n_X6_tell 184 [(1, .int (nI j)), (0, .ref 6)] [] S3 Q := fun S3 g3 c3 i3 => by
    refine k184 S3 ⟨p1.1.tr g3, c3, p1.2.2.up g3.2.1⟩ (fun z s hs e => ?_)
    obtain ⟨z1, m3⟩ := g3.2.2.1 z
    obtain ⟨z0, m1⟩ := g1.2.2.1 z1
    by_cases y : s = j
    · subst y
      obtain ⟨r1, r2⟩ := m3.T (s := s) (by omega)
      have eg : oEg P (mO S3) s = oEg P (mO S1) s := by unfold oEg; rw [r1, r2]
      have ea : oAd P (mO S3) s = oAd P (mO S1) s := by unfold oAd; rw [r1, r2]
      have ef : oFt P (mO S3) s = oFt P (mO S1) s := by unfold oFt; rw [r1, r2]
      obtain ⟨ke, ka⟩ := k1 z1
      refine ⟨fun e he b nz => ?_, fun p hp => ?_, fun b1 b2 b3 => ?_⟩
      · rw [eg] at he
        exact (ke e he b nz).up g3.2.1 (Nat.lt_of_lt_of_le (oEg_tg hP hj e he b).2 hn)
      · rw [ea] at hp
        exact (ka p hp).tr (g3.2.1.2.1 _ (oAd_tg p hp))
      · rw [ef] at b3
        rw [r1]
        exact i3 b1 b2 b3
    · exact g3.cons hP (by omega) z (g1.cons hP (by omega) z1 (hC z0 s (by omega) (m1.2.2 s (by omega) (m3.2.2 s (by omega) e))))
  iterate 3 refine Wp.p rfl ?_
  refine Wp.g rfl ij ?_
  refine Wp.b rfl (fun (c : S1.2.2 346 (tn (nI j)) < 0) => ?_) (fun (c : ¬ S1.2.2 346 (tn (nI j)) < 0) => ?_)
  · rw [tj, e4'] at c
    exact done1 S1 (Gm.af Fr.rf) c1 (fun b _ _ => absurd c (Int32.not_lt.mpr b))
  rw [tj, e4'] at c
  iterate 2 refine Wp.p rfl ?_
  refine Wp.i rfl (s_m_faultsOf c1.1 c1.2.1 hj ?_)
  refine Wp.b rfl (fun (z : oFt P (mO S1) j = 0) => ?_) (fun (z : ¬ oFt P (mO S1) j = 0) => ?_)
  · exact done1 S1 (Gm.af Fr.rf) c1 (fun _ _ b => absurd z b)
  iterate 2 refine Wp.p rfl ?_
  refine Wp.i rfl (s_m_takes (by omega) (fun S2 f2 b2 => ?_))
  have c2 := c1.af f2
  have e4'' : S2.2.2 346 = P.2.2.2.2.2 := c2.1.2.2.2.2.2.2
  iterate 4 refine Wp.p rfl ?_
  refine Wp.g rfl ij ?_
  refine (?_ : Wp (d + 3) n_X6_tell 181 [(1, .int (nI j)), (0, .ref 6)] [.int (S2.2.2 346 (tn (nI j))), .ref 6] S2 Q)
  rw [tj, e4'']
  refine Wp.i rfl (s_m_comes (t := tR (mO S1) j) c2 (fun v hv => by rw [b2 v hv]; exact rwM_tR v hv) (Int32.not_lt.mp c) (fun b nz => c1.2.1.h hn hj hr1 (Int32.not_lt.mp c) b z) (fun S3 g3 c3 _ i3 => ?_))
  refine done1 S3 ((Gm.af f2).tr g3) c3 (fun _ b _ => i3 b (fun v hv => ?_))
  rw [← rwM_tR v hv]
  exact (c1.2.2 j (by omega) hr1).2 v hv
theorem s_m_pass {d : Nat} {S0 : mS} {Q : mQ} {P : oP} (h : ∀ S', mP P S0 S' → (S'.1 269 = 0 → Clo P (mO S')) → Wp (d + 3) n_X6_tell 113 [(0, .ref 6)] [] S' Q) :
    ∀ (k j : Nat) (S : mS), j + k = P.1 → mP P S0 S → (S.1 269 = 0 → ∀ s, s < j → (mO S).2.2 s = true → Cons P (mO S) s) → Wp (d + 3) n_X6_tell 127 [(1, .int (nI j)), (0, .ref 6)] [] S Q := by
  intro k
  induction k with
  | zero =>
    intro j S hj hR hC
    have hn := hR.2.1.1.1.1
    obtain rfl : j = P.1 := by omega
    iterate 3 refine Wp.p rfl ?_
    refine Wp.b rfl (fun _ => ?_) (fun (c : ¬ S.1 241 ≤ nI P.1) => absurd (by rw [hR.2.1.1.2.1]; exact nI_le (Nat.le_refl _) (by omega)) c)
    iterate 1 refine Wp.p rfl ?_
    exact (h S hR hC).sub (lS.mk rfl rfl (by repeat (first | exact lSub.nil | refine lSub.cons rfl ?_)))
  | succ k ih =>
    intro j S hj hR hC
    exact s_m_turn (by omega) hR hC (fun S' hR' hC' => ih (j + 1) S' (by omega) hR' hC')
theorem s_m_passes {d : Nat} {SA : mS} {Q : mQ} {P : oP} (h : ∀ S', Fr [269] [366, 367, 368, 370] SA S' → MI P S' → oB P (mO S') → Clo P (mO S') → Q none S') :
    ∀ (k : Nat) (S : mS), (S.1 269 = 0 ∨ 1982 < muM (mO S) + k) → Fr [269] [366, 367, 368, 370] SA S → MI P S → oB P (mO S) → (S.1 269 = 0 → Clo P (mO S)) → Wp (d + 3) n_X6_tell 113 [(0, .ref 6)] [] S Q := by
  intro k
  induction k with
  | zero =>
    intro S hm hF hc hB hC
    have := muM_b (mO S)
    have z : S.1 269 = 0 := hm.resolve_right (by omega)
    iterate 2 refine Wp.p rfl ?_
    refine Wp.b rfl (fun (c : S.1 269 = 0) => ?_) (fun (c : ¬ S.1 269 = 0) => absurd z c)
    exact Wp.r rfl trivial (h S hF hc hB (hC c))
  | succ k ih =>
    intro S hm hF hc hB hC
    have hP := hc.1.1
    iterate 2 refine Wp.p rfl ?_
    refine Wp.b rfl (fun (c : S.1 269 = 0) => ?_) (fun (c : ¬ S.1 269 = 0) => ?_)
    · exact Wp.r rfl trivial (h S hF hc hB (hC c))
    have hm' := hm.resolve_left c
    iterate 2 refine Wp.p rfl ?_
    refine Wp.g rfl (Or.inl rfl) ?_
    iterate 2 refine Wp.p rfl ?_
    refine (?_ : Wp (d + 3) n_X6_tell 127 [(1, .int (nI 0)), (0, .ref 6)] [] (sF S 269 0) Q).sub (lS.mk rfl rfl (by repeat (first | exact lSub.nil | refine lSub.cons rfl ?_)))
    have F0 : Fr [269] [366, 367, 368, 370] S (sF S 269 0) := Fr.rf.f (by decide)
    have c0 : MI P (sF S 269 0) := ⟨hc.1.fr F0 (by decide) (by decide), hc.2⟩
    refine s_m_pass (S0 := sF S 269 0) (fun S' hR hC' => ih S' ?_ (hF.tr (F0.tr hR.1.1)) hR.2.1 hR.2.2 hC') P.1 0 _ (by omega) ⟨Gm.af Fr.rf, c0, hB⟩ (fun _ s hs => absurd hs (by omega))
    by_cases z : S'.1 269 = 0
    · exact Or.inl z
    · have gt : mGt (mO S) (mO S') := (hR.1.2.2.2 z).resolve_left (fun y => y rfl)
      have := muM_lt hR.1.2.1 gt hR.2.1.2.1 hP
      have this : muM (mO S) < muM (mO S') := this
      exact Or.inr (by omega)
-- the beginning
theorem s_m_may_it {d j : Nat} {S : mS} {Q : mQ} (hj : j < 192) (h : Wp (d + 3) n_X6_tell 15 [(1, .int (nI (j + 1))), (0, .ref 6)] [] (sA S 366 j (if j < 6 ∧ 0 < S.1 241 then 1 else 0)) Q) : Wp (d + 3) n_X6_tell 15 [(1, .int (nI j)), (0, .ref 6)] [] S Q := by
  have tj : tn (nI j) = j := tn_nI (by omega)
  have ij : vp_in (nI j) 192 := vp_in_nI (N := 192) hj (by omega)
  rw [← nI_1] at h
  have fin : ∀ z : Int32, z = (if j < 6 ∧ 0 < S.1 241 then 1 else 0) → Wp (d + 3) n_X6_tell 45 [(1, .int (nI j)), (0, .ref 6)] [.int z, .int (nI j), .ref 366] S Q := fun z hz => by
    rw [← hz, ← tj] at h
    rw [tj] at h
    refine Wp.g rfl ij ?_
    iterate 2 refine Wp.p rfl ?_
    refine Wp.sub (ls := [(1, .int (nI j + 1)), (0, .ref 6)]) ?_ (lS.mk rfl rfl (by repeat (first | exact lSub.nil | refine lSub.cons rfl ?_)))
    show Wp (d + 3) n_X6_tell 15 _ [] (sA S 366 (tn (nI j)) z) Q
    rw [tj]
    exact h
  iterate 2 refine Wp.p rfl ?_
  refine Wp.b rfl (fun (c : (192 : Int32) ≤ nI j) => absurd c (nI_ge (b := 192) hj (by decide))) (fun _ => ?_)
  iterate 5 refine Wp.p rfl ?_
  refine Wp.b rfl (fun (c : (6 : Int32) ≤ nI j) => ?_) (fun (c : ¬ (6 : Int32) ≤ nI j) => ?_)
  · iterate 1 refine Wp.p rfl ?_
    exact fin 0 (if_neg (fun z => nI_ge (b := 6) z.1 (by decide) c)).symm
  have l6 : j < 6 := (nI_ltI (b := 6) (by omega) (by decide)).mp (Int32.not_le.mp c)
  iterate 2 refine Wp.p rfl ?_
  refine Wp.b rfl (fun (c : S.1 241 ≤ 0) => ?_) (fun (c : ¬ S.1 241 ≤ 0) => ?_)
  · iterate 1 refine Wp.p rfl ?_
    exact fin 0 (if_neg (fun z => Int32.not_le.mpr z.2 c)).symm
  · iterate 2 refine Wp.p rfl ?_
    exact fin 1 (if_pos ⟨l6, Int32.not_le.mp c⟩).symm
theorem s_m_may_loop {d : Nat} {Q : mQ} (S0 : mS) (hQ : ∀ S', Fr [] [366] S0 S' → (∀ q, q < 192 → S'.2.2 366 q = if q < 6 ∧ 0 < S0.1 241 then 1 else 0) → Wp (d + 3) n_X6_tell 15 [(1, .int (nI 192)), (0, .ref 6)] [] S' Q) :
    ∀ (k j : Nat) (S : mS), j + k = 192 → Fr [] [366] S0 S → (∀ q, q < j → S.2.2 366 q = if q < 6 ∧ 0 < S0.1 241 then 1 else 0) → Wp (d + 3) n_X6_tell 15 [(1, .int (nI j)), (0, .ref 6)] [] S Q := by
  intro k
  induction k with
  | zero =>
    intro j S hj hF hC
    obtain rfl : j = 192 := by omega
    exact hQ S hF hC
  | succ k ih =>
    intro j S hj hF hC
    refine s_m_may_it (by omega) (ih (j + 1) _ (by omega) (hF.a (by decide)) (fun q hq => ?_))
    rw [sA_at, hF.1 241 List.not_mem_nil]
    by_cases e : q = j
    · rw [e, upd_at]
    · rw [upd_ne e]
      exact hC q (by omega)
theorem s_m_ic_it {d j : Nat} {S : mS} {Q : mQ} (hj : j < 32) (h : Wp (d + 3) n_X6_tell 54 [(1, .int (nI (j + 1))), (0, .ref 6)] [] (sA S 367 j (if j = 0 ∧ 0 < S.1 241 then 1 else 0)) Q) : Wp (d + 3) n_X6_tell 54 [(1, .int (nI j)), (0, .ref 6)] [] S Q := by
  have tj : tn (nI j) = j := tn_nI (by omega)
  have ij : vp_in (nI j) 32 := vp_in_nI (N := 32) hj (by omega)
  rw [← nI_1] at h
  have fin : ∀ z : Int32, (z = 0 ∨ z = 1) → z = (if j = 0 ∧ 0 < S.1 241 then 1 else 0) → Wp (d + 3) n_X6_tell 81 [(1, .int (nI j)), (0, .ref 6)] [.int z, .int (nI j), .ref 367] S Q := fun z h01 hz => by
    rw [← hz] at h
    refine Wp.g rfl ⟨h01, ij⟩ ?_
    iterate 2 refine Wp.p rfl ?_
    refine Wp.sub (ls := [(1, .int (nI j + 1)), (0, .ref 6)]) ?_ (lS.mk rfl rfl (by repeat (first | exact lSub.nil | refine lSub.cons rfl ?_)))
    show Wp (d + 3) n_X6_tell 54 _ [] (sA S 367 (tn (nI j)) z) Q
    rw [tj]
    exact h
  iterate 2 refine Wp.p rfl ?_
  refine Wp.b rfl (fun (c : (32 : Int32) ≤ nI j) => absurd c (nI_ge (b := 32) hj (by decide))) (fun _ => ?_)
  iterate 4 refine Wp.p rfl ?_
  refine Wp.b rfl (fun (c : ¬ nI j = 0) => ?_) (fun (c : ¬ ¬ nI j = 0) => ?_)
  · iterate 1 refine Wp.p rfl ?_
    exact fin 0 (Or.inl rfl) (if_neg (fun z => c (by rw [z.1]; rfl))).symm
  have l0 : j = 0 := by
    have := congrArg tn (Decidable.not_not.mp c)
    rw [tj] at this
    exact this
  iterate 2 refine Wp.p rfl ?_
  refine Wp.b rfl (fun (c : S.1 241 ≤ 0) => ?_) (fun (c : ¬ S.1 241 ≤ 0) => ?_)
  · iterate 1 refine Wp.p rfl ?_
    exact fin 0 (Or.inl rfl) (if_neg (fun z => Int32.not_le.mpr z.2 c)).symm
  · iterate 2 refine Wp.p rfl ?_
    exact fin 1 (Or.inr rfl) (if_pos ⟨l0, Int32.not_le.mp c⟩).symm
theorem s_m_ic_loop {d : Nat} {Q : mQ} (S0 : mS) (hQ : ∀ S', Fr [] [367] S0 S' → (∀ q, q < 32 → S'.2.2 367 q = if q = 0 ∧ 0 < S0.1 241 then 1 else 0) → Wp (d + 3) n_X6_tell 54 [(1, .int (nI 32)), (0, .ref 6)] [] S' Q) :
    ∀ (k j : Nat) (S : mS), j + k = 32 → Fr [] [367] S0 S → (∀ q, q < j → S.2.2 367 q = if q = 0 ∧ 0 < S0.1 241 then 1 else 0) → Wp (d + 3) n_X6_tell 54 [(1, .int (nI j)), (0, .ref 6)] [] S Q := by
  intro k
  induction k with
  | zero =>
    intro j S hj hF hC
    obtain rfl : j = 32 := by omega
    exact hQ S hF hC
  | succ k ih =>
    intro j S hj hF hC
    refine s_m_ic_it (by omega) (ih (j + 1) _ (by omega) (hF.a (by decide)) (fun q hq => ?_))
    rw [sA_at, hF.1 241 List.not_mem_nil]
    by_cases e : q = j
    · rw [e, upd_at]
    · rw [upd_ne e]
      exact hC q (by omega)
theorem s_m_al_it {d j : Nat} {S : mS} {Q : mQ} (hj : j < 3) (h : Wp (d + 3) n_X6_tell 90 [(1, .int (nI (j + 1))), (0, .ref 6)] [] (sA S 368 j 1) Q) : Wp (d + 3) n_X6_tell 90 [(1, .int (nI j)), (0, .ref 6)] [] S Q := by
  have tj : tn (nI j) = j := tn_nI (by omega)
  rw [← nI_1] at h
  iterate 2 refine Wp.p rfl ?_
  refine Wp.b rfl (fun (c : (3 : Int32) ≤ nI j) => absurd c (nI_ge (b := 3) hj (by decide))) (fun _ => ?_)
  iterate 4 refine Wp.p rfl ?_
  refine Wp.g rfl (vp_in_nI (N := 3) hj (by omega)) ?_
  iterate 2 refine Wp.p rfl ?_
  refine Wp.sub (ls := [(1, .int (nI j + 1)), (0, .ref 6)]) ?_ (lS.mk rfl rfl (by repeat (first | exact lSub.nil | refine lSub.cons rfl ?_)))
  show Wp (d + 3) n_X6_tell 90 _ [] (sA S 368 (tn (nI j)) 1) Q
  rw [tj]
  exact h
theorem s_m_tell {d : Nat} {S : mS} {Q : mQ} {P : oP} (hq : oQm P S) (hl : ¬ S.1 263 = 0 → Lst P (mO S))
    (h : ∀ S', Fr [263, 269] [366, 367, 368, 370] S S' → ¬ S'.1 263 = 0 → Lst P (mO S') → Q none S') : Ev (d + 3) n_X6_tell [.ref 6] S Q := by
  iterate 2 refine Wp.p rfl ?_
  refine Wp.b rfl (fun (c : S.1 263 = 0) => ?_) (fun (c : ¬ S.1 263 = 0) => ?_)
  case refine_2 => exact Wp.r rfl trivial (h S Fr.rf c (hl c))
  iterate 2 refine Wp.p rfl ?_
  refine Wp.g rfl (Or.inr rfl) ?_
  iterate 2 refine Wp.p rfl ?_
  refine (?_ : Wp (d + 3) n_X6_tell 15 [(1, .int (nI 0)), (0, .ref 6)] [] (sF S 263 1) Q).sub (lS.mk rfl rfl (by repeat (first | exact lSub.nil | refine lSub.cons rfl ?_)))
  refine s_m_may_loop (sF S 263 1) (fun S1 F1 v1 => ?_) 192 0 _ (by omega) Fr.rf (fun q hq => absurd hq (by omega))
  iterate 2 refine Wp.p rfl ?_
  refine Wp.bT rfl (by decide) ?_
  iterate 2 refine Wp.p rfl ?_
  refine (?_ : Wp (d + 3) n_X6_tell 54 [(1, .int (nI 0)), (0, .ref 6)] [] S1 Q).sub (lS.mk rfl rfl (by repeat (first | exact lSub.nil | refine lSub.cons rfl ?_)))
  refine s_m_ic_loop S1 (fun S2 F2 v2 => ?_) 32 0 _ (by omega) Fr.rf (fun q hq => absurd hq (by omega))
  iterate 2 refine Wp.p rfl ?_
  refine Wp.bT rfl (by decide) ?_
  iterate 2 refine Wp.p rfl ?_
  refine (?_ : Wp (d + 3) n_X6_tell 90 [(1, .int (nI 0)), (0, .ref 6)] [] S2 Q).sub (lS.mk rfl rfl (by repeat (first | exact lSub.nil | refine lSub.cons rfl ?_)))
  refine s_m_al_it (by omega) (s_m_al_it (by omega) (s_m_al_it (by omega) ?_))
  iterate 2 refine Wp.p rfl ?_
  refine Wp.bT rfl (by decide) ?_
  iterate 2 refine Wp.p rfl ?_
  refine Wp.g rfl (Or.inr rfl) ?_
  refine (?_ : Wp (d + 3) n_X6_tell 113 [(0, .ref 6)] [] (sF (sA (sA (sA S2 368 0 1) 368 (0 + 1) 1) 368 (0 + 1 + 1) 1) 269 1) Q).sub (lS.mk rfl rfl (by repeat (first | exact lSub.nil | refine lSub.cons rfl ?_)))
  have FA : Fr [263, 269] [366, 367, 368, 370] S (sF (sA (sA (sA S2 368 0 1) 368 (0 + 1) 1) 368 (0 + 1 + 1) 1) 269 1) := ((((((((Fr.rf (fs := [263, 269]) (as := [366, 367, 368, 370]) (S := S)).f (q := 263) (x := 1) (by decide)).tr (F1.up (fun _ z => by cases z) (by decide))).tr (F2.up (fun _ z => by cases z) (by decide))).a (by decide)).a (by decide)).a (by decide)).f (by decide))
  have g241 : S1.1 241 = S.1 241 := (F1.1 241 List.not_mem_nil).trans rfl
  have a6 : ∀ q, q < 192 → (sF (sA (sA (sA S2 368 0 1) 368 (0 + 1) 1) 368 (0 + 1 + 1) 1) 269 1).2.2 366 q = if q < 6 ∧ 0 < S.1 241 then 1 else 0 := fun q hq => by
    show S2.2.2 366 q = _
    rw [F2.2.2 366 (by decide)]
    exact v1 q hq
  have a7 : ∀ q, q < 32 → (sF (sA (sA (sA S2 368 0 1) 368 (0 + 1) 1) 368 (0 + 1 + 1) 1) 269 1).2.2 367 q = if q = 0 ∧ 0 < S.1 241 then 1 else 0 := fun q hq => by
    show S2.2.2 367 q = _
    rw [← g241]
    exact v2 q hq
  have a8 : ∀ q, q < 3 → (sF (sA (sA (sA S2 368 0 1) 368 (0 + 1) 1) 368 (0 + 1 + 1) 1) 269 1).2.2 368 q = 1 := fun q hq => by
    match q, hq with
    | 0, _ => rfl
    | 1, _ => rfl
    | 2, _ => rfl
  have f9 : (sF (sA (sA (sA S2 368 0 1) 368 (0 + 1) 1) 368 (0 + 1 + 1) 1) 269 1).1 269 = 1 := rfl
  have f3 : (sF (sA (sA (sA S2 368 0 1) 368 (0 + 1) 1) 368 (0 + 1 + 1) 1) 269 1).1 263 = 1 := by
    show S2.1 263 = 1
    rw [F2.1 263 List.not_mem_nil, F1.1 263 List.not_mem_nil]
    rfl
  revert FA a6 a7 a8 f9 f3
  generalize sF (sA (sA (sA S2 368 0 1) 368 (0 + 1) 1) 368 (0 + 1 + 1) 1) 269 1 = SA
  intro FA a6 a7 a8 f9 f3
  have qA : oQm P SA := hq.fr FA (by decide) (by decide)
  have hn := hq.1.1
  have pos : 0 < S.1 241 ↔ 0 < P.1 := by
    rw [hq.2.1]
    exact nI_ltI (a := 0) (by decide) (by omega)
  have co : ∀ s, s < 32 → (mO SA).2.2 s = true → s = 0 ∧ 0 < P.1 := fun s hs e => by
    have := mO_c.mp e
    rw [a7 s hs] at this
    by_cases z : s = 0 ∧ 0 < S.1 241
    · exact ⟨z.1, pos.mp z.2⟩
    · rw [if_neg z] at this; exact absurd rfl this
  have cA : MI P SA := by
    refine ⟨qA, fun U hU hB => ⟨fun q hq => ?_, fun w hw => ?_, fun s hs e => ?_⟩, fun s hs e => ?_⟩
    · show le (SA.2.2 366 q) _
      rw [a6 q hq]
      by_cases z : q < 6 ∧ 0 < S.1 241
      · rw [if_pos z]; exact (hB.1 (pos.mp z.2)).2 q z.1
      · rw [if_neg z]; exact le.zero
    · show le (SA.2.2 368 w) _
      rw [a8 w hw]; exact hB.2 w hw
    · obtain ⟨z1, z2⟩ := co s hs e
      rw [z1]; exact (hB.1 z2).1
    · obtain ⟨z1, z2⟩ := co s hs e
      refine ⟨by omega, fun v hv => ?_⟩
      rw [a6 _ (by omega), if_pos ⟨by omega, pos.mpr z2⟩]
      decide
  have bA : oB P (mO SA) := by
    refine ⟨fun z => ⟨mO_c.mpr ?_, fun v hv => ?_⟩, fun w hw => ?_⟩
    · rw [a7 0 (by decide), if_pos ⟨rfl, pos.mpr z⟩]; decide
    · show le 1 (SA.2.2 366 v)
      rw [a6 v (by omega), if_pos ⟨hv, pos.mpr z⟩]; exact le.rf
    · show le 1 (SA.2.2 368 w)
      rw [a8 w hw]; exact le.rf
  refine s_m_passes (SA := SA) (fun S' hF hc hB hC => ?_) 1983 SA (Or.inr (by omega)) Fr.rf cA bA (fun z => by rw [f9] at z; exact absurd z (by decide))
  refine h S' (FA.tr (hF.up (by decide) (by decide))) ?_ ⟨hc.2.1, hC, hB, fun s hs e => (hc.2.2 s hs e).2⟩
  rw [hF.1 263 (by decide), f3]
  decide
