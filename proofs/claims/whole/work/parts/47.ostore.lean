theorem Gr.same {S S' : mS} {s : Nat} (h : Gr S S') (hs : s < 32) (hr : hb (S.1 84) s = true) (hw : ¬ hb (S'.1 85) s = true) : tR (cO S') s = tR (cO S) s ∧ tA (cO S') = tA (cO S) := by
  have a := h.2.2.2.1 s hs hw
  refine ⟨funext (fun v => ?_), funext (fun w => ?_)⟩
  · unfold tR
    split
    · next c => exact a.1 v c
    · rfl
  · unfold tA
    split
    · next c => exact a.2.2 hr w c
    · rfl
theorem s_O_storeCell {d : Nat} {S : mS} {Q : mQ} {P : oP} {x y : Int32} (hc : CI P S) (b1 : sh x 128 → BA P 1 (y &&& 31)) (b2 : sh x 256 → BA P 2 (y &&& 25))
    (h : ∀ S', Gr S S' → CI P S' → le (if sh x 128 then y &&& 31 else 0) (S'.2.2 182 1) → le (if sh x 256 then y &&& 25 else 0) (S'.2.2 182 2) → Q none S') : Ev (d + 2) n_X2_storeCell [.ref 2, .int x, .int y] S Q := by
  have k23 : ∀ S1, Gr S S1 → CI P S1 → le (if sh x 128 then y &&& 31 else 0) (S1.2.2 182 1) → Wp (d + 2) n_X2_storeCell 23 [(0, .ref 2), (1, .int x), (2, .int y)] [] S1 Q := fun S1 g1 c1 l1 => by
    iterate 2 refine Wp.p rfl ?_
    refine Wp.i rfl (s_share (fun (c : sh x 256) => ?_) (fun (c : x &&& 256 = 0) => ?_))
    · refine Wp.b rfl (fun (e : (1 : Int32) = 0) => absurd e (by decide)) (fun _ => ?_)
      iterate 5 refine Wp.p rfl ?_
      refine Wp.g rfl (show vp_in 8 10 by unfold vp_in; decide) ?_
      iterate 1 refine Wp.p rfl ?_
      refine Wp.i rfl (s_O_addToAll (w := 2) (x := y &&& 25) c1 (by decide) (b2 c) (fun S2 g2 c2 _ l2 => ?_))
      refine Wp.r rfl trivial (h S2 (g1.tr g2) c2 (l1.tr (g2.2.1.2.1 1 (by decide))) ?_)
      rw [if_pos c]
      exact l2
    · refine Wp.b rfl (fun _ => ?_) (fun (e : ¬ (0 : Int32) = 0) => absurd rfl e)
      refine Wp.r rfl trivial (h S1 g1 c1 l1 ?_)
      rw [if_neg (fun z => z c)]
      exact le.zero
  iterate 2 refine Wp.p rfl ?_
  refine Wp.i rfl (s_share (fun (c : sh x 128) => ?_) (fun (c : x &&& 128 = 0) => ?_))
  · refine Wp.b rfl (fun (e : (1 : Int32) = 0) => absurd e (by decide)) (fun _ => ?_)
    iterate 5 refine Wp.p rfl ?_
    refine Wp.g rfl (show vp_in 7 10 by unfold vp_in; decide) ?_
    iterate 1 refine Wp.p rfl ?_
    refine Wp.i rfl (s_O_addToAll (w := 1) (x := y &&& 31) hc (by decide) (b1 c) (fun S2 g2 c2 _ l2 => ?_))
    refine k23 S2 g2 c2 ?_
    rw [if_pos c]
    exact l2
  · refine Wp.b rfl (fun _ => ?_) (fun (e : ¬ (0 : Int32) = 0) => absurd rfl e)
    refine k23 S (Gr.af Fr.rf) hc ?_
    rw [if_neg (fun z => z c)]
    exact le.zero
theorem s_O_storeMoved {d : Nat} {S : mS} {Q : mQ} {P : oP} {x y : Int32} (hc : CI P S) (b1 : sh x 128 ∧ sh y 256 → BA P 2 (S.2.2 182 1 &&& 25)) (b2 : ∀ S1, Gr S S1 → CI P S1 → (∀ v, S1.2.2 181 v = S.2.2 181 v) → sh x 256 ∧ sh y 128 → BA P 1 (S1.2.2 182 2 &&& 31))
    (h : ∀ S', Gr S S' → CI P S' → le (if sh x 128 ∧ sh y 256 then S.2.2 182 1 &&& 25 else 0) (S'.2.2 182 2) → (∃ S1, Gr S S1 ∧ Gr S1 S' ∧ le (if sh x 256 ∧ sh y 128 then S1.2.2 182 2 &&& 31 else 0) (S'.2.2 182 1)) → Q none S') : Ev (d + 2) n_X2_storeMoved [.ref 2, .int x, .int y] S Q := by
  have k38 : ∀ S1, Gr S S1 → CI P S1 → (∀ v, S1.2.2 181 v = S.2.2 181 v) → le (if sh x 128 ∧ sh y 256 then S.2.2 182 1 &&& 25 else 0) (S1.2.2 182 2) → Wp (d + 2) n_X2_storeMoved 38 [(0, .ref 2), (1, .int x), (2, .int y)] [] S1 Q := fun S1 g1 c1 r1 l1 => by
    have out : ¬ (sh x 256 ∧ sh y 128) → Wp (d + 2) n_X2_storeMoved 76 [(0, .ref 2), (1, .int x), (2, .int y)] [] S1 Q := fun c => by
      refine Wp.r rfl trivial (h S1 g1 c1 l1 ⟨S1, g1, Gr.af Fr.rf, ?_⟩)
      rw [if_neg c]
      exact le.zero
    iterate 2 refine Wp.p rfl ?_
    refine Wp.i rfl (s_share (fun (c : sh x 256) => ?_) (fun (c : x &&& 256 = 0) => ?_))
    · refine Wp.b rfl (fun (e : (1 : Int32) = 0) => absurd e (by decide)) (fun _ => ?_)
      iterate 2 refine Wp.p rfl ?_
      refine Wp.i rfl (s_share (fun (c' : sh y 128) => ?_) (fun (c' : y &&& 128 = 0) => ?_))
      · refine Wp.b rfl (fun (e : (1 : Int32) = 0) => absurd e (by decide)) (fun _ => ?_)
        iterate 5 refine Wp.p rfl ?_
        refine Wp.g rfl (show vp_in 2 3 by unfold vp_in; decide) ?_
        iterate 2 refine Wp.p rfl ?_
        refine Wp.g rfl (show vp_in 7 10 by unfold vp_in; decide) ?_
        iterate 1 refine Wp.p rfl ?_
        refine Wp.i rfl (s_O_addToAll (w := 1) (x := S1.2.2 182 2 &&& 31) c1 (by decide) (b2 S1 g1 c1 r1 ⟨c, c'⟩) (fun S2 g2 c2 _ l2 => ?_))
        refine Wp.r rfl trivial (h S2 (g1.tr g2) c2 (l1.tr (g2.2.1.2.1 2 (by decide))) ⟨S1, g1, g2, ?_⟩)
        rw [if_pos ⟨c, c'⟩]
        exact l2
      · refine Wp.b rfl (fun _ => ?_) (fun (e : ¬ (0 : Int32) = 0) => absurd rfl e)
        exact out (fun z => z.2 c')
    · refine Wp.b rfl (fun _ => ?_) (fun (e : ¬ (0 : Int32) = 0) => absurd rfl e)
      exact out (fun z => z.1 c)
  have out : ¬ (sh x 128 ∧ sh y 256) → Wp (d + 2) n_X2_storeMoved 38 [(0, .ref 2), (1, .int x), (2, .int y)] [] S Q := fun c => by
    refine k38 S (Gr.af Fr.rf) hc (fun _ => rfl) ?_
    rw [if_neg c]
    exact le.zero
  iterate 2 refine Wp.p rfl ?_
  refine Wp.i rfl (s_share (fun (c : sh x 128) => ?_) (fun (c : x &&& 128 = 0) => ?_))
  · refine Wp.b rfl (fun (e : (1 : Int32) = 0) => absurd e (by decide)) (fun _ => ?_)
    iterate 2 refine Wp.p rfl ?_
    refine Wp.i rfl (s_share (fun (c' : sh y 256) => ?_) (fun (c' : y &&& 256 = 0) => ?_))
    · refine Wp.b rfl (fun (e : (1 : Int32) = 0) => absurd e (by decide)) (fun _ => ?_)
      iterate 5 refine Wp.p rfl ?_
      refine Wp.g rfl (show vp_in 1 3 by unfold vp_in; decide) ?_
      iterate 2 refine Wp.p rfl ?_
      refine Wp.g rfl (show vp_in 8 10 by unfold vp_in; decide) ?_
      iterate 1 refine Wp.p rfl ?_
      refine Wp.i rfl (s_O_addToAll (w := 2) (x := S.2.2 182 1 &&& 25) hc (by decide) (b1 ⟨c, c'⟩) (fun S2 g2 c2 r2 l2 => ?_))
      refine k38 S2 g2 c2 r2 ?_
      rw [if_pos ⟨c, c'⟩]
      exact l2
    · refine Wp.b rfl (fun _ => ?_) (fun (e : ¬ (0 : Int32) = 0) => absurd rfl e)
      exact out (fun z => z.2 c')
  · refine Wp.b rfl (fun _ => ?_) (fun (e : ¬ (0 : Int32) = 0) => absurd rfl e)
    exact out (fun z => z.1 c)
theorem s_O_store {d s : Nat} {S : mS} {Q : mQ} {P : oP} (hc : CI P S) (hs : s < P.1) (hr : hb (S.1 84) s = true)
    (h : ∀ S', Gr S S' → CI P S' → (¬ hb (S'.1 85) s = true → ∀ p ∈ oAd P (cO S') s, le p.2 (S'.2.2 182 p.1)) → Q none S') : Ev (d + 3) n_X2_store [.ref 2, .int (nI s)] S Q := by
  obtain ⟨hP, h125, e0, e1, e2, e3, e4⟩ := hc.1
  have hn := hP.1
  obtain ⟨⟨k, hk, hw⟩, -⟩ := hP.2 s hs
  have hk24 := hw.1
  have tk : tn (P.2.1 s) = k := by rw [hk]; exact tn_nI (by omega)
  have ts : tn (nI s) = s := tn_nI (by omega)
  have is : vp_in (nI s) 32 := vp_in_nI (N := 32) (by omega) (by omega)
  have hbe := hc.2.1
  have kne : ∀ j, j < 24 → ¬ k = j → ¬ nI k = nI j := fun j hj e z => e (by have := congrArg tn z; rw [tn_nI (by omega), tn_nI (by omega)] at this; exact this)
  iterate 4 refine Wp.p rfl ?_
  refine Wp.g rfl is ?_
  iterate 3 refine Wp.p rfl ?_
  refine (?_ : Wp (d + 3) n_X2_store 13 [(2, .int (S.2.2 220 (tn (nI s)))), (0, .ref 2), (1, .int (nI s))] [.int 8, .int (S.2.2 220 (tn (nI s)))] S Q)
  rw [ts, e0, hk]
  have main : k = 8 ∨ k = 10 ∨ k = 22 → Wp (d + 3) n_X2_store 29 [(2, .int (nI k)), (0, .ref 2), (1, .int (nI s))] [] S Q := fun ck => by
    have va : vp_in (P.2.2.1 s) 6 := by
      rcases ck with rfl | rfl | rfl
      · exact in_of (n := 6) (hw.2.1.1 rfl) (by decide)
      · exact in_of (n := 6) (hw.2.1.1 rfl) (by decide)
      · exact in_of (n := 6) (hw.2.1.1 rfl) (by decide)
    have vb : vp_in (P.2.2.2.1 s) 6 := by
      rcases ck with rfl | rfl | rfl
      · exact in_of (n := 6) (hw.2.2.1.1 rfl) (by decide)
      · exact in_of (n := 6) (hw.2.2.1.1 rfl) (by decide)
      · exact in_of (n := 6) (hw.2.2.1.1 rfl) (by decide)
    iterate 6 refine Wp.p rfl ?_
    refine Wp.g rfl is ?_
    refine (?_ : Wp (d + 3) n_X2_store 40 [(2, .int (nI k)), (0, .ref 2), (1, .int (nI s))] [.int (S.2.2 221 (tn (nI s))), .int (nI s), .ref 2] S Q)
    rw [ts, e1]
    refine Wp.i rfl (s_O_kindsAt (by omega) va ?_)
    iterate 7 refine Wp.p rfl ?_
    refine Wp.g rfl is ?_
    refine (?_ : Wp (d + 3) n_X2_store 55 [(3, .int (S.2.2 181 (6 * s + tn (P.2.2.1 s)))), (2, .int (nI k)), (0, .ref 2), (1, .int (nI s))] [.int (S.2.2 222 (tn (nI s))), .int (nI s), .ref 2] S Q)
    rw [ts, e2]
    refine Wp.i rfl (s_O_kindsAt (by omega) vb ?_)
    rw [rwS_tR _ (V6 va (by decide)).1, rwS_tR _ (V6 vb (by decide)).1]
    iterate 3 refine Wp.p rfl ?_
    have fin : ∀ S', Gr S S' → ¬ hb (S'.1 85) s = true → oAd P (cO S') s = oAd P (cO S) s := fun S' g z => by
      obtain ⟨r1, r2⟩ := g.same (by omega) hr z
      unfold oAd
      rw [r1, r2]
    rcases ck with rfl | rfl | rfl
    · have ea : oAd P (cO S) s = if sh (tR (cO S) s (tn (P.2.2.1 s))) 30 then [(0, tR (cO S) s (tn (P.2.2.2.1 s)))] else [] := by
        unfold oAd
        rw [tk]
        rfl
      refine Wp.b rfl (fun (c : ¬ nI 8 = 8) => absurd rfl c) (fun _ => ?_)
      iterate 2 refine Wp.p rfl ?_
      refine Wp.i rfl (s_share (x := tR (cO S) s (tn (P.2.2.1 s))) (y := 30) (fun c => ?_) (fun c => ?_))
      · rw [if_pos c] at ea
        refine Wp.b rfl (fun (e : (1 : Int32) = 0) => absurd e (by decide)) (fun _ => ?_)
        iterate 3 refine Wp.p rfl ?_
        have bb := hbe.a (p := (0, tR (cO S) s (tn (P.2.2.2.1 s)))) hn hs hr (by rw [ea]; exact List.mem_singleton.mpr rfl)
        refine Wp.i rfl (s_O_addToAll (w := 0) (x := tR (cO S) s (tn (P.2.2.2.1 s))) hc (by decide) bb (fun S2 g2 c2 _ l2 => ?_))
        iterate 1 refine Wp.p rfl ?_
        refine Wp.r rfl trivial (h S2 g2 c2 (fun z p hp => ?_))
        rw [fin S2 g2 z, ea, List.mem_singleton] at hp
        rw [hp]
        exact l2
      · rw [if_neg (fun z => z c)] at ea
        refine Wp.b rfl (fun _ => ?_) (fun (e : ¬ (0 : Int32) = 0) => absurd rfl e)
        iterate 2 refine Wp.p rfl ?_
        refine Wp.bT rfl (by decide) ?_
        iterate 2 refine Wp.p rfl ?_
        refine Wp.bT rfl (by decide) ?_
        refine Wp.r rfl trivial (h S (Gr.af Fr.rf) hc (fun z p hp => ?_))
        rw [ea] at hp
        cases hp
    · have ea : oAd P (cO S) s = [(1, if sh (tR (cO S) s (tn (P.2.2.1 s))) 128 then tR (cO S) s (tn (P.2.2.2.1 s)) &&& 31 else 0), (2, if sh (tR (cO S) s (tn (P.2.2.1 s))) 256 then tR (cO S) s (tn (P.2.2.2.1 s)) &&& 25 else 0)] := by
        unfold oAd
        rw [tk]
        rfl
      refine Wp.bT rfl (by decide) ?_
      iterate 2 refine Wp.p rfl ?_
      refine Wp.bF rfl (by decide) ?_
      iterate 3 refine Wp.p rfl ?_
      refine Wp.i rfl (s_O_storeCell hc (fun c => ?_) (fun c => ?_) (fun S2 g2 c2 l1 l2 => ?_))
      · have := hbe.a (p := (1, if sh (tR (cO S) s (tn (P.2.2.1 s))) 128 then tR (cO S) s (tn (P.2.2.2.1 s)) &&& 31 else 0)) hn hs hr (by rw [ea]; exact List.mem_cons_self)
        rw [if_pos c] at this
        exact this
      · have := hbe.a (p := (2, if sh (tR (cO S) s (tn (P.2.2.1 s))) 256 then tR (cO S) s (tn (P.2.2.2.1 s)) &&& 25 else 0)) hn hs hr (by rw [ea]; exact List.mem_cons_of_mem _ (List.mem_singleton.mpr rfl))
        rw [if_pos c] at this
        exact this
      · iterate 1 refine Wp.p rfl ?_
        refine Wp.r rfl trivial (h S2 g2 c2 (fun z p hp => ?_))
        rw [fin S2 g2 z, ea, List.mem_cons, List.mem_singleton] at hp
        rcases hp with rfl | rfl
        · exact l1
        · exact l2
    · have ea : ∀ S1 : mS, oAd P (cO S1) s = [(2, if sh (tR (cO S1) s (tn (P.2.2.1 s))) 128 ∧ sh (tR (cO S1) s (tn (P.2.2.2.1 s))) 256 then S1.2.2 182 1 &&& 25 else 0), (1, if sh (tR (cO S1) s (tn (P.2.2.1 s))) 256 ∧ sh (tR (cO S1) s (tn (P.2.2.2.1 s))) 128 then S1.2.2 182 2 &&& 31 else 0)] := fun S1 => by
        unfold oAd
        rw [tk]
        rfl
      refine Wp.bT rfl (by decide) ?_
      iterate 2 refine Wp.p rfl ?_
      refine Wp.bT rfl (by decide) ?_
      iterate 2 refine Wp.p rfl ?_
      refine Wp.bF rfl (by decide) ?_
      iterate 3 refine Wp.p rfl ?_
      refine Wp.i rfl (s_O_storeMoved hc (fun c => ?_) (fun S1 g1 c1 r1 c => ?_) (fun S2 g2 c2 l1 l2 => ?_))
      · have := hbe.a (p := (2, if sh (tR (cO S) s (tn (P.2.2.1 s))) 128 ∧ sh (tR (cO S) s (tn (P.2.2.2.1 s))) 256 then S.2.2 182 1 &&& 25 else 0)) hn hs hr (by rw [ea]; exact List.mem_cons_self)
        rw [if_pos c] at this
        exact this
      · have er : tR (cO S1) s = tR (cO S) s := funext (fun v => by
          unfold tR
          split
          · exact r1 _
          · rfl)
        have := c1.2.1.a (p := (1, if sh (tR (cO S1) s (tn (P.2.2.1 s))) 256 ∧ sh (tR (cO S1) s (tn (P.2.2.2.1 s))) 128 then S1.2.2 182 2 &&& 31 else 0)) hn hs (g1.2.1.2.2 s (by omega) hr) (by rw [ea]; exact List.mem_cons_of_mem _ (List.mem_singleton.mpr rfl))
        rw [er, if_pos c] at this
        exact this
      · refine Wp.r rfl trivial (h S2 g2 c2 (fun z p hp => ?_))
        obtain ⟨S1, g1, g3, l3⟩ := l2
        rw [fin S2 g2 z, ea, List.mem_cons, List.mem_singleton] at hp
        rcases hp with rfl | rfl
        · exact l1
        · obtain ⟨-, r2⟩ := g1.same (by omega) hr (fun y => z (g3.2.2.1 s y))
          have : S1.2.2 182 2 = S.2.2 182 2 := congrFun r2 2
          rw [this] at l3
          exact l3
  have skip : ¬ k = 8 → ¬ k = 10 → ¬ k = 22 → Wp (d + 3) n_X2_store 28 [(2, .int (nI k)), (0, .ref 2), (1, .int (nI s))] [] S Q := fun c8 c10 c22 => by
    refine Wp.r rfl trivial (h S (Gr.af Fr.rf) hc (fun z p hp => ?_))
    unfold oAd adS at hp
    rw [tk] at hp
    split at hp
    · exact absurd rfl c8
    · exact absurd rfl c10
    · exact absurd rfl c22
    · cases hp
  by_cases c8 : k = 8
  · refine Wp.b rfl (fun _ => main (Or.inl c8)) (fun (c : ¬ nI k = 8) => absurd (by rw [c8]; rfl) c)
  refine Wp.b rfl (fun (c : nI k = 8) => absurd c (kne 8 (by decide) c8)) (fun _ => ?_)
  iterate 2 refine Wp.p rfl ?_
  by_cases c10 : k = 10
  · refine Wp.b rfl (fun _ => main (Or.inr (Or.inl c10))) (fun (c : ¬ nI k = 10) => absurd (by rw [c10]; rfl) c)
  refine Wp.b rfl (fun (c : nI k = 10) => absurd c (kne 10 (by decide) c10)) (fun _ => ?_)
  iterate 2 refine Wp.p rfl ?_
  by_cases c22 : k = 22
  · refine Wp.b rfl (fun _ => main (Or.inr (Or.inr c22))) (fun (c : ¬ nI k = 22) => absurd (by rw [c22]; rfl) c)
  refine Wp.b rfl (fun (c : nI k = 22) => absurd c (kne 22 (by decide) c22)) (fun _ => ?_)
  exact skip c8 c10 c22
