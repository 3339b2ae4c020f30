theorem PW_add {n : Nat} {co pa pb pc ph : Nat → Int32} {k a b c h : Int32} (hP : PW n co pa pb pc ph) (ho : okS k a b c h) (hn : n < 32) : PW (n + 1) (upd co n k) (upd pa n a) (upd pb n b) (upd pc n c) (upd ph n h) := by
  refine ⟨by omega, fun i hi => ?_⟩
  by_cases e : i = n
  · subst e
    rw [upd_at, upd_at, upd_at, upd_at, upd_at]
    exact ho
  · rw [upd_ne e, upd_ne e, upd_ne e, upd_ne e, upd_ne e]
    exact hP.2 i (by omega)
theorem tw_step {i : Nat} {S : mS} (h : Inv i S) (co a b c hh : Int32) : Tw 9 n_X5_step n_X6_step i [.int co, .int a, .int b, .int c, .int hh] S := by
  have hI := h.s
  obtain ⟨n, ⟨a1, a2, a3, p0, p1, p2, p3, p4⟩, ⟨b1, b2, -⟩, hR, -⟩ := id h
  have hn : n ≤ 32 := a3.1
  refine s_C_step a1 hn (fun e => ⟨⟨_, rfl⟩, ?_⟩) (fun e1 e2 => ⟨⟨_, rfl⟩, ?_⟩) (fun e1 e2 S1 hA => ⟨⟨_, rfl⟩, ?_⟩)
  · exact s_D_step a2 hn (fun _ => ⟨rfl, hI.th⟩) (fun z => absurd z e) (fun z => absurd z e)
  · exact s_D_step a2 hn (fun z => absurd e1 z) (fun _ _ => ⟨rfl, hI.th⟩) (fun _ z => absurd z (by omega))
  · obtain ⟨F, f162, f163, f86, f125, v260, v261, v0, v1, v2, v3, v4⟩ := hA
    refine s_D_step (n := n) (by rw [F.1 241 (by decide)]; exact a2) hn (fun z => absurd e1 z) (fun _ z => absurd z (by omega)) (fun _ _ S2 hM => ⟨rfl, n + 1, ?_, ?_, ?_, ?_⟩)
    · obtain ⟨G, g0, g250, g263, g241, w347, w348, w0, w1, w2, w3, w4⟩ := hM
      have x0 : S2.2.2 220 = upd (S.2.2 220) n co := (G.2 220 (by decide)).trans v0
      have x1 : S2.2.2 221 = upd (S.2.2 221) n a := (G.2 221 (by decide)).trans v1
      have x2 : S2.2.2 222 = upd (S.2.2 222) n b := (G.2 222 (by decide)).trans v2
      have x3 : S2.2.2 223 = upd (S.2.2 223) n c := (G.2 223 (by decide)).trans v3
      have x4 : S2.2.2 224 = upd (S.2.2 224) n hh := (G.2 224 (by decide)).trans v4
      refine ⟨(G.1 125 (by decide)).trans f125, g241, ?_, ?_, ?_, ?_, ?_, ?_⟩
      · show PW (n + 1) (S2.2.2 220) (S2.2.2 221) (S2.2.2 222) (S2.2.2 223) (S2.2.2 224)
        rw [x0, x1, x2, x3, x4]
        exact PW_add a3 e1 e2
      · rw [w0, x0, F.2.2 342 (by decide), p0]
      · rw [w1, x1, F.2.2 343 (by decide), p1]
      · rw [w2, x2, F.2.2 344 (by decide), p2]
      · rw [w3, x3, F.2.2 345 (by decide), p3]
      · rw [w4, x4, F.2.2 346 (by decide), p4]
    · obtain ⟨G, g0, g250, g263, g241, w347, w348, -⟩ := hM
      refine ⟨?_, ?_, 0, 0, (G.1 163 (by decide)).trans f163, g250, (G.1 162 (by decide)).trans f162, g0, by omega, by omega⟩
      · rw [w347, G.2 260 (by decide), v260, F.2.2 347 (by decide), b1]
      · rw [w348, G.2 261 (by decide), v261, F.2.2 348 (by decide), b2]
    · exact (hR.fm F.m (by decide) (by decide) (by decide)).fm hM.1 (by decide) (by decide) (by decide)
    · obtain ⟨G, g0, g250, g263, -⟩ := hM
      exact ⟨fun z => absurd ((G.1 86 (by decide)).trans f86) z, fun z => absurd g263 z⟩
theorem tw_clear {i : Nat} {S : mS} (h : Inv i S) : Tw 9 n_X5_clear n_X6_clear i [] S := by
  obtain ⟨n, ⟨a1, a2, a3, p0, p1, p2, p3, p4⟩, ⟨b1, b2, -⟩, hR, -⟩ := id h
  refine s_C_clear (fun S1 hC => ⟨⟨_, rfl⟩, ?_⟩)
  obtain ⟨F, f162, f163, f86, f125, f48, v260, v261⟩ := hC
  refine s_D_clear (fun S2 hM => ⟨?_, 0, ?_, ?_, ?_, ?_⟩)
  · rw [F.1 241 (by decide), a1, a2]
  · obtain ⟨G, g0, g250, g263, g241, g251, w347, w348⟩ := hM
    refine ⟨(G.1 125 (by decide)).trans f125, g241, ⟨Nat.zero_le _, fun j hj => absurd hj (Nat.not_lt_zero j)⟩, ?_, ?_, ?_, ?_, ?_⟩
    · rw [G.2 342 (by decide), G.2 220 (by decide), F.2.2 342 (by decide), F.2.2 220 (by decide), p0]
    · rw [G.2 343 (by decide), G.2 221 (by decide), F.2.2 343 (by decide), F.2.2 221 (by decide), p1]
    · rw [G.2 344 (by decide), G.2 222 (by decide), F.2.2 344 (by decide), F.2.2 222 (by decide), p2]
    · rw [G.2 345 (by decide), G.2 223 (by decide), F.2.2 345 (by decide), F.2.2 223 (by decide), p3]
    · rw [G.2 346 (by decide), G.2 224 (by decide), F.2.2 346 (by decide), F.2.2 224 (by decide), p4]
  · obtain ⟨G, g0, g250, g263, g241, g251, w347, w348⟩ := hM
    refine ⟨?_, ?_, 0, 0, (G.1 163 (by decide)).trans f163, g250, (G.1 162 (by decide)).trans f162, g0, by omega, by omega⟩
    · rw [w347, G.2 260 (by decide), v260, F.2.2 347 (by decide), b1]
    · rw [w348, G.2 261 (by decide), v261, F.2.2 348 (by decide), b2]
  · obtain ⟨G, g0, g250, g263, g241, g251, w347, w348⟩ := hM
    have e48 : S2.1 48 = 4 := (G.1 48 (by decide)).trans f48
    refine ⟨?_, ⟨fun _ => g251, fun _ => e48⟩, fun z => absurd e48 z⟩
    rw [cV_fm G (by decide) (by decide), dV_fm G (by decide) (by decide), cV_fm F.m (by decide) (by decide), dV_fm F.m (by decide) (by decide)]
    exact hR.1
  · obtain ⟨G, g0, g250, g263, -⟩ := hM
    exact ⟨fun z => absurd ((G.1 86 (by decide)).trans f86) z, fun z => absurd g263 z⟩
theorem rn_le {n : Nat} {co pa pb pc ph : Nat → Int32} : ∀ (left dn : Nat) (s : Int32) (many : Nat) (m : mM) (sn hd : Nat → Int32), (rnF n co pa pb pc ph left dn s many m sn hd).2.1 ≤ dn + left ∧ ¬ (rnF n co pa pb pc ph left dn s many m sn hd).1 = 4 := by
  intro left
  induction left with
  | zero =>
    intro dn s many m sn hd
    unfold rnF
    split
    · exact ⟨Nat.le_refl _, fun z => absurd (show (2 : Int32) = 4 from z) (by decide)⟩
    · exact ⟨Nat.le_refl _, fun z => absurd (show (0 : Int32) = 4 from z) (by decide)⟩
  | succ left ih =>
    intro dn s many m sn hd
    unfold rnF
    split
    · split
      · split
        · exact ⟨show dn + 1 ≤ dn + (left + 1) by omega, fun z => absurd (show (0 : Int32) = 4 from z) (by decide)⟩
        · obtain ⟨x, y⟩ := ih (dn + 1) _ _ _ _ _
          exact ⟨Nat.le_trans x (by omega), y⟩
      · split
        · exact ⟨show dn + 1 ≤ dn + (left + 1) by omega, fun z => absurd (show (2 : Int32) = 4 from z) (by decide)⟩
        · split
          · exact ⟨show dn + 1 ≤ dn + (left + 1) by omega, fun z => absurd (show (1 : Int32) = 4 from z) (by decide)⟩
          · obtain ⟨x, y⟩ := ih (dn + 1) _ _ _ _ _
            exact ⟨Nat.le_trans x (by omega), y⟩
    · exact ⟨show dn ≤ dn + (left + 1) by omega, fun z => absurd (show (0 : Int32) = 4 from z) (by decide)⟩
theorem nI_64 {a : Nat} (h : a < 2 ^ 31) : (nI a).toInt64.toInt = a := by rw [Int32.toInt_toInt64, nI_toInt h]
theorem nI_64a {a b : Nat} (h : a + b < 2 ^ 31) : (nI a).toInt64 + (nI b).toInt64 = (nI (a + b)).toInt64 := by
  refine Int64.toInt_inj.mp ?_
  rw [Int64.toInt_add, nI_64 (by omega), nI_64 (by omega), nI_64 h]
  have : ((a : Int) + b).bmod (2 ^ 64) = (a : Int) + b := Int.bmod_eq_of_le (by omega) (by omega)
  omega
theorem tw_run {i : Nat} {S : mS} (h : Inv i S) (hi : i ≤ 512) (x y : Int32) : Tw 9 n_X5_run n_X6_run i [.int x, .int y] S := by
  obtain ⟨n, hP, ⟨b1, b2, r, t, q1, q2, q3, q4, q5, q6⟩, ⟨r0, r1, r2⟩, hT⟩ := id h
  obtain ⟨a1, a2, a3, p0, p1, p2, p3, p4⟩ := id hP
  refine s_C_run (n := n) ⟨a1, a3⟩ (fun S1 hR => ⟨⟨_, rfl⟩, ?_⟩)
  obtain ⟨F, f163, f48, f46, f49, f50, f51, fV, v260, v261, f162⟩ := hR
  have hP1 : InP n S1 := hP.fm F.m (by decide) (by decide) (by decide)
  have e : rnD S1 n x y = rnC S n x y := by
    unfold rnD rnC
    rw [F.2.2 342 (by decide), F.2.2 343 (by decide), F.2.2 344 (by decide), F.2.2 345 (by decide), F.2.2 346 (by decide), F.2.2 347 (by decide), F.2.2 348 (by decide), dV_fm F.m (by decide) (by decide), p0, p1, p2, p3, p4, b1, b2, r0]
  refine s_D_run (n := n) ⟨hP1.2.1, ?_⟩ (fun S2 hD => ⟨by rw [e], n, ?_, ?_, ?_, ?_⟩)
  · have a3' := hP1.2.2.1
    obtain ⟨-, -, -, p0', p1', p2', p3', p4'⟩ := hP1
    rw [p0', p1', p2', p3', p4']
    exact a3'
  · exact hP1.fm hD.1 (by decide) (by decide) (by decide)
  · rw [e] at hD
    obtain ⟨G, g240, g251, g250, g2, g252, g253, g254, g255, gV, w347, w348⟩ := hD
    have hle := (rn_le (n := n) (co := S.2.2 220) (pa := S.2.2 221) (pb := S.2.2 222) (pc := S.2.2 223) (ph := S.2.2 224) 200 0 0 0 (m0F (cV S) x y) (S.2.2 260) (S.2.2 261)).1
    have hle : (rnC S n x y).2.1 ≤ 200 := Nat.le_trans hle (by omega)
    refine ⟨?_, ?_, r + 1, t + (rnC S n x y).2.1, ?_, ?_, ?_, ?_, by omega, by omega⟩
    · rw [w347, G.2 260 (by decide), v260]
    · rw [w348, G.2 261 (by decide), v261]
    · rw [G.1 163 (by decide), f163, q1]; exact nI_1 r
    · rw [g250, F.1 250 (by decide), q2]; exact nI_1 r
    · rw [G.1 162 (by decide), f162, q3]; exact nI_add ..
    · rw [g2, F.2.1, q4]; exact nI_64a (by omega)
  · rw [e] at hD
    obtain ⟨G, g240, g251, g250, g2, g252, g253, g254, g255, gV, w347, w348⟩ := hD
    have hne := (rn_le (n := n) (co := S.2.2 220) (pa := S.2.2 221) (pb := S.2.2 222) (pc := S.2.2 223) (ph := S.2.2 224) 200 0 0 0 (m0F (cV S) x y) (S.2.2 260) (S.2.2 261)).2
    have e48 : ¬ S2.1 48 = 4 := by rw [G.1 48 (by decide), f48]; exact hne
    have cv : cV S2 = (rnC S n x y).2.2.2.2.2.1 := (cV_fm G (by decide) (by decide)).trans fV
    refine ⟨by rw [cv, gV], ⟨fun z => absurd z e48, fun z => by rw [g251] at z; exact absurd z (by decide)⟩, fun _ => ⟨?_, ?_, ?_, ?_, ?_⟩⟩
    · rw [g252, G.1 46 (by decide), f46]
    · rw [g253, G.1 49 (by decide), f49]
    · rw [g254, G.1 50 (by decide), f50]
    · rw [g255, G.1 51 (by decide), f51]
    · rw [cv]
      exact WF_rn a3 200 0 0 0 0 _ _ _ (WF_0 (cV S) x y)
  · have G := hD.1
    have eP : oPS n S2 = oPS n S := (oPS_fm G (by decide)).trans (oPS_fm F.m (by decide))
    have eO : cO S2 = cO S := (cO_fm G (by decide) (by decide)).trans (cO_fm F.m (by decide) (by decide))
    have eM : mO S2 = mO S := (mO_fm G (by decide)).trans (mO_fm F.m (by decide))
    refine ⟨fun z => ?_, fun z => ?_⟩
    · rw [eP, eO]
      rw [G.1 86 (by decide), F.1 86 (by decide)] at z
      exact hT.1 z
    · rw [eP, eM]
      rw [G.1 263 (by decide), F.1 263 (by decide)] at z
      exact hT.2 z
-- what is told ahead
theorem oQ_of {n : Nat} {S : mS} (h : InP n S) : oQ (oPS n S) S := ⟨h.2.2.1, h.1, rfl, rfl, rfl, rfl, rfl⟩
theorem oQm_of {n : Nat} {S : mS} (h : InP n S) : oQm (oPS n S) S := ⟨h.2.2.1, h.2.1, h.2.2.2.1, h.2.2.2.2.1, h.2.2.2.2.2.1, h.2.2.2.2.2.2.1, h.2.2.2.2.2.2.2⟩
theorem Lst.e {P : oP} {T U : oT} (h : Lst P T) (g : Lst P U) : (∀ q, q < 192 → T.1 q = U.1 q) ∧ (∀ w, w < 3 → T.2.1 w = U.2.1 w) ∧ ∀ s, s < 32 → T.2.2 s = U.2.2 s := lfp_eq h.1 h.2.1 h.2.2.1 g.1 g.2.1 g.2.2.1
theorem tw_o {i n : Nat} {S S1 S2 : mS} (hP : InP n S) (hW : InW i S) (hR : InR S) (hC : cL (oPS n S) S S1) (hD : dL (oPS n S) S1 S2) : Inv (i + 1) S2 := by
  obtain ⟨F, f86, fL⟩ := hC
  obtain ⟨G, g240, gL⟩ := hD
  have eP : oPS n S2 = oPS n S := (oPS_fm G.m (by decide)).trans (oPS_fm F.m (by decide))
  refine ⟨n, (hP.fm F.m (by decide) (by decide) (by decide)).fm G.m (by decide) (by decide) (by decide), ((hW.fr F (by decide) (by decide)).fr G (by decide) (by decide)).s, (hR.fm F.m (by decide) (by decide) (by decide)).fm G.m (by decide) (by decide) (by decide), fun _ => ?_, fun z => ?_⟩
  · rw [eP, cO_fm G.m (by decide) (by decide)]; exact fL
  · rw [eP]; exact gL z
theorem tw_m {n : Nat} {S S1 : mS} (hP : InP n S) (hT : InT n S) (hC : cL (oPS n S) S S1) : oQm (oPS n S) S1 ∧ (¬ S1.1 263 = 0 → Lst (oPS n S) (mO S1)) := by
  obtain ⟨F, f86, fL⟩ := hC
  have hP1 : InP n S1 := hP.fm F.m (by decide) (by decide) (by decide)
  have eP : oPS n S1 = oPS n S := oPS_fm F.m (by decide)
  refine ⟨by rw [← eP]; exact oQm_of hP1, fun z => ?_⟩
  rw [F.1 263 (by decide)] at z
  rw [mO_fm F.m (by decide)]
  exact hT.2 z
theorem tw_may {i : Nat} {S : mS} (h : Inv i S) (s v : Int32) : Tw 9 n_X5_may n_X6_may i [.int s, .int v] S := by
  obtain ⟨n, hP, hW, hR, hT⟩ := id h
  have hn : n ≤ 32 := hP.2.2.1.1
  refine s_C_may (d := 2) (oQ_of hP) hT.1 (fun S1 x hC hx => ⟨⟨_, rfl⟩, ?_⟩)
  obtain ⟨hq, hl⟩ := tw_m hP hT hC
  refine s_D_may (d := 5) hq hl (fun S2 y hD hL hy => ⟨?_, tw_o hP hW hR hC hD⟩)
  by_cases c : inS (oPS n S) s ∧ 0 ≤ v ∧ v < 6
  · rw [hx.1 c, hy.1 c]
    obtain ⟨j, hj, -, tj⟩ := inS_i (P := oPS n S) hn c.1
    have hj : j < n := hj
    have l6 := (V6 (in_of (n := 6) c.2 (by decide)) (by decide)).1
    rw [(hC.2.2.e (hL c)).1 _ (by rw [tj]; omega)]
  · rw [hx.2 c, hy.2 c]
theorem oFt_e {P : oP} {T U : oT} {s : Nat} (hs : s < 32) (h : Lst P T) (g : Lst P U) : oFt P T s = oFt P U s := by
  obtain ⟨a, b, -⟩ := h.e g
  have er : tR T s = tR U s := funext (fun v => by
    unfold tR
    split
    · next c => exact a _ (by omega)
    · rfl)
  have ea : tA T = tA U := funext (fun w => by
    unfold tA
    split
    · next c => exact b w c
    · rfl)
  unfold oFt
  rw [er, ea]
theorem tw_faults {i : Nat} {S : mS} (h : Inv i S) (s : Int32) : Tw 9 n_X5_faults n_X6_faults i [.int s] S := by
  obtain ⟨n, hP, hW, hR, hT⟩ := id h
  have hn : n ≤ 32 := hP.2.2.1.1
  refine s_C_faults (d := 2) (oQ_of hP) hT.1 (fun S1 x hC hx => ⟨⟨_, rfl⟩, ?_⟩)
  obtain ⟨hq, hl⟩ := tw_m hP hT hC
  refine s_D_faults (d := 5) hq hl (fun S2 y hD hL hy => ⟨?_, tw_o hP hW hR hC hD⟩)
  by_cases c : inS (oPS n S) s
  · rw [hx.1 c, hy.1 c]
    obtain ⟨j, hj, -, tj⟩ := inS_i (P := oPS n S) hn c
    have hj : j < n := hj
    rw [(hC.2.2.e (hL c)).2.2 _ (by rw [tj]; omega), oFt_e (by rw [tj]; omega) hC.2.2 (hL c)]
  · rw [hx.2 c, hy.2 c]
theorem tw_cast {i : Nat} {S : mS} (h : Inv i S) (s : Int32) : Tw 9 n_X5_cast n_X6_cast i [.int s] S := by
  obtain ⟨n, hP, hW, hR, hT⟩ := id h
  have hn : n ≤ 32 := hP.2.2.1.1
  refine s_C_cast (d := 2) (oQ_of hP) hT.1 (fun S1 x hC hx => ⟨⟨_, rfl⟩, ?_⟩)
  obtain ⟨hq, hl⟩ := tw_m hP hT hC
  refine s_D_cast (d := 5) hq hl (fun S2 y hD hL hy => ⟨?_, tw_o hP hW hR hC hD⟩)
  by_cases c : inS (oPS n S) s
  · rw [hx.1 c, hy.1 c]
    obtain ⟨j, hj, -, tj⟩ := inS_i (P := oPS n S) hn c
    have hj : j < n := hj
    rw [(hC.2.2.e (hL c)).2.2 _ (by rw [tj]; omega)]
    by_cases c6 : (oPS n S).2.1 (tn s) = 6 ∧ (mO S2).2.2 (tn s) = true
    · rw [if_pos c6, if_pos c6]
      obtain ⟨⟨k, hk, hw⟩, -⟩ := hP.2.2.1.2 j hj
      have k6 : k = 6 := by
        have hk24 := hw.1
        rw [tj] at c6
        rw [c6.1] at hk
        have := congrArg tn hk
        rw [tn_nI (by omega)] at this
        exact this.symm
      subst k6
      have va := (V6 (in_of (n := 6) (hw.2.1.1 rfl) (by decide)) (by decide)).1
      rw [(hC.2.2.e (hL c)).1 _ (by rw [tj]; omega)]
    · rw [if_neg c6, if_neg c6]
  · rw [hx.2 c, hy.2 c]
theorem tw_all {i : Nat} {S : mS} (h : Inv i S) (w : Int32) : Tw 9 n_X5_all n_X6_all i [.int w] S := by
  obtain ⟨n, hP, hW, hR, hT⟩ := id h
  refine s_C_all (d := 2) (oQ_of hP) hT.1 (fun S1 x hC hx => ⟨⟨_, rfl⟩, ?_⟩)
  obtain ⟨hq, hl⟩ := tw_m hP hT hC
  refine s_D_all (d := 5) hq hl (fun S2 y hD hL hy => ⟨?_, tw_o hP hW hR hC hD⟩)
  by_cases c : 0 ≤ w ∧ w ≤ 2
  · rw [hx.1 c, hy.1 c]
    obtain ⟨j, -, hj, e⟩ := of_rng (lo := 0) (hi := 2) rfl rfl (by decide) (by decide) c.1 c.2
    have tw : tn w < 3 := by rw [e, tn_nI (by omega)]; omega
    rw [(hC.2.2.e (hL c)).2.1 _ tw]
  · rw [hx.2 c, hy.2 c]
