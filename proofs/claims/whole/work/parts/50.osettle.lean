/-- the least that holds together -/
def Lst (P : oP) (T : oT) : Prop := Bel P T ∧ Clo P T ∧ oB P T ∧ ∀ s, s < 32 → T.2.2 s = true → ∀ v, v < 6 → ¬ T.1 (6 * s + v) = 0
def oJ (P : oP) (S : mS) : Prop := ∀ s, s < P.1 → hb (S.1 84) s = true → ¬ hb (S.1 85) s = true → Cons P (cO S) s
theorem oB.up {P : oP} {T U : oT} (h : oB P T) (hle : oLe T U) : oB P U := ⟨fun z => ⟨hle.2.2 0 (by decide) (h.1 z).1, fun v hv => ((h.1 z).2 v hv).tr (hle.1 v (by omega))⟩, fun w hw => (h.2 w hw).tr (hle.2.1 w hw)⟩
theorem hb_lt {x : Int32} {k : Nat} (h : hb x k = true) : k < 32 := by
  rcases Nat.lt_or_ge k 32 with z | z
  · exact z
  · rw [hb_ge z] at h; cases h
theorem hb_clr {x : Int32} {k j : Nat} (hk : k < 32) : hb (x &&& (1 <<< (nI k &&& 31) ^^^ -1)) j = true ↔ hb x j = true ∧ ¬ j = k := by
  rw [hb_and, Bool.and_eq_true]
  constructor
  · rintro ⟨a, b⟩
    refine ⟨a, fun e => ?_⟩
    rw [hb_not (hb_lt a), hb_shl hk, decide_eq_true e] at b
    cases b
  · rintro ⟨a, b⟩
    refine ⟨a, ?_⟩
    rw [hb_not (hb_lt a), hb_shl hk, decide_eq_false b]
    rfl
def oR (P : oP) (S0 S : mS) : Prop := Fr [84, 85] [181, 182, 183] S0 S ∧ CI P S ∧ oB P (cO S) ∧ oJ P S
theorem s_O_turn {d r j : Nat} {S0 S : mS} {Q : mQ} {P : oP} {T0 : oT} (hj : j < P.1) (hR : oR P S0 S) (hle : oLe T0 (cO S)) (hg : oGt T0 (cO S) ∨ ∀ s, hb (S.1 85) s = true → j ≤ s)
    (h : ∀ S', oR P S0 S' → oLe T0 (cO S') → (oGt T0 (cO S') ∨ ∀ s, hb (S'.1 85) s = true → j + 1 ≤ s) → Wp (d + 6) n_X2_settle 70 [(2, .int (nI (j + 1))), (1, .int (nI r)), (0, .ref 2)] [] S' Q) :
    Wp (d + 6) n_X2_settle 70 [(2, .int (nI j)), (1, .int (nI r)), (0, .ref 2)] [] S Q := by
  obtain ⟨hF, hc, hB, hJ⟩ := hR
  have hP := hc.1.1
  have hn := hP.1
  iterate 3 refine Wp.p rfl ?_
  refine Wp.i rfl (s_P_size ?_)
  rw [hc.1.2.1]
  refine Wp.b rfl (fun (c : nI P.1 ≤ nI j) => absurd c (nI_ge hj (by omega))) (fun _ => ?_)
  iterate 6 refine Wp.p rfl ?_
  refine Wp.b rfl (fun (c : (((S.1 85).toUInt32 >>> ((nI j).toUInt32 &&& Int32.toUInt32 31)).toInt32 &&& 1 = 0)) => ?_) (fun (c : ¬ (((S.1 85).toUInt32 >>> ((nI j).toUInt32 &&& Int32.toUInt32 31)).toInt32 &&& 1 = 0)) => ?_)
  · have c' := (uB_hb (by omega)).mp c
    iterate 2 refine Wp.p rfl ?_
    have := h S ⟨hF, hc, hB, hJ⟩ hle (hg.imp id (fun z s e => by
      have := z s e
      have : ¬ s = j := fun y => by rw [y, c'] at e; cases e
      omega))
    rw [← nI_1] at this
    exact this.sub (lS.mk rfl rfl (by repeat (first | exact lSub.nil | refine lSub.cons rfl ?_)))
  · have c' : hb (S.1 85) j = true := by
      cases e : hb (S.1 85) j with
      | true => rfl
      | false => exact absurd ((uB_hb (by omega)).mpr e) c
    have hr := hc.2.2.2.2.2 j c'
    iterate 12 refine Wp.p rfl ?_
    refine (?_ : Wp (d + 6) n_X2_settle 108 [(2, .int (nI j)), (1, .int (nI r)), (0, .ref 2)] [.int (nI j), .ref 2] (sF S 85 (S.1 85 &&& (1 <<< (nI j &&& 31) ^^^ -1))) Q)
    have f85 : (sF S 85 (S.1 85 &&& (1 <<< (nI j &&& 31) ^^^ -1))).1 85 = S.1 85 &&& (1 <<< (nI j &&& 31) ^^^ -1) := rfl
    have f84 : (sF S 85 (S.1 85 &&& (1 <<< (nI j &&& 31) ^^^ -1))).1 84 = S.1 84 := rfl
    have hF1 : Fr [84, 85] [181, 182, 183] S (sF S 85 (S.1 85 &&& (1 <<< (nI j &&& 31) ^^^ -1))) := Fr.rf.f (by decide)
    have e1 : cO (sF S 85 (S.1 85 &&& (1 <<< (nI j &&& 31) ^^^ -1))) = cO S := rfl
    have c1 : CI P (sF S 85 (S.1 85 &&& (1 <<< (nI j &&& 31) ^^^ -1))) := ⟨hc.1.fr hF1 (by decide) (by decide), hc.2.1, hc.2.2.1, hc.2.2.2.1, hc.2.2.2.2.1, fun s e => by
      rw [f85] at e
      exact hc.2.2.2.2.2 s ((hb_clr (by omega)).mp e).1⟩
    revert f85 f84 hF1 e1 c1
    generalize sF S 85 (S.1 85 &&& (1 <<< (nI j &&& 31) ^^^ -1)) = S1
    intro f85 f84 hF1 e1 c1
    refine Wp.i rfl (s_O_lookAt c1 hj (by rw [f84]; exact hr) (fun S2 g2 c2 k2 => ?_))
    have hle2 : oLe (cO S) (cO S2) := by rw [← e1]; exact g2.2.1
    iterate 2 refine Wp.p rfl ?_
    have := h S2 ⟨(hF.tr hF1).tr g2.1, c2, hB.up hle2, fun s hs e w => ?_⟩ (hle.tr hle2) ?_
    · rw [← nI_1] at this
      exact this.sub (lS.mk rfl rfl (by repeat (first | exact lSub.nil | refine lSub.cons rfl ?_)))
    · by_cases z : s = j
      · rw [z] at w ⊢
        exact k2 w
      · have g := g2.2.2.2.1 s (by omega) w
        have r1 := g.2.1 e
        have w1 : ¬ hb (S.1 85) s = true := fun y => w (g2.2.2.1 s (by rw [f85]; exact (hb_clr (by omega)).mpr ⟨y, z⟩))
        have k := hJ s hs (by rw [f84] at r1; exact r1) w1
        rw [← e1] at k
        exact k.up hP hs g.1 (g.2.2 r1) g2.2.1
    · rcases hg with y | y
      · exact Or.inl (y.l hle2)
      · by_cases g : oGt (cO S) (cO S2)
        · exact Or.inl (oGt.r hle g)
        · refine Or.inr (fun s e => ?_)
          rcases g2.2.2.2.2 s e with z | z
          · rw [f85] at z
            obtain ⟨z1, z2⟩ := (hb_clr (by omega)).mp z
            have := y s z1
            omega
          · rw [e1] at z
            exact absurd z g
theorem s_O_round {d r : Nat} {S0 : mS} {Q : mQ} {P : oP} {T0 : oT}
    (h : ∀ S', oR P S0 S' → oLe T0 (cO S') → (oGt T0 (cO S') ∨ ∀ s, hb (S'.1 85) s = true → P.1 ≤ s) → Wp (d + 6) n_X2_settle 54 [(1, .int (nI (r + 1))), (0, .ref 2)] [] S' Q) :
    ∀ (k j : Nat) (S : mS), j + k = P.1 → oR P S0 S → oLe T0 (cO S) → (oGt T0 (cO S) ∨ ∀ s, hb (S.1 85) s = true → j ≤ s) → Wp (d + 6) n_X2_settle 70 [(2, .int (nI j)), (1, .int (nI r)), (0, .ref 2)] [] S Q := by
  intro k
  induction k with
  | zero =>
    intro j S hj hR hle hg
    have hn := hR.2.1.1.1.1
    obtain rfl : j = P.1 := by omega
    iterate 3 refine Wp.p rfl ?_
    refine Wp.i rfl (s_P_size ?_)
    rw [hR.2.1.1.2.1]
    refine Wp.b rfl (fun _ => ?_) (fun c => absurd (nI_le (Nat.le_refl _) (by omega)) c)
    iterate 2 refine Wp.p rfl ?_
    have := h S hR hle hg
    rw [← nI_1] at this
    exact this.sub (lS.mk rfl rfl (by repeat (first | exact lSub.nil | refine lSub.cons rfl ?_)))
  | succ k ih =>
    intro j S hj hR hle hg
    exact s_O_turn (by omega) hR hle hg (fun S' hR' hle' hg' => ih (j + 1) S' (by omega) hR' hle' hg')
theorem s_O_rounds {d : Nat} {S0 : mS} {Q : mQ} {P : oP} (h : ∀ S', oR P S0 S' → S'.1 85 = 0 → Q none S') :
    ∀ (k r : Nat) (S : mS), r + k = 1951 → oR P S0 S → (S.1 85 = 0 ∨ r ≤ muT (cO S)) → Wp (d + 6) n_X2_settle 54 [(1, .int (nI r)), (0, .ref 2)] [] S Q := by
  intro k
  induction k with
  | zero =>
    intro r S hr hR hm
    obtain rfl : r = 1951 := by omega
    have := muT_b (cO S)
    have w0 : S.1 85 = 0 := hm.resolve_right (by omega)
    iterate 2 refine Wp.p rfl ?_
    refine Wp.bT rfl (by decide) ?_
    exact Wp.r rfl trivial (h S hR w0)
  | succ k ih =>
    intro r S hr hR hm
    have hP := hR.2.1.1.1
    iterate 2 refine Wp.p rfl ?_
    refine Wp.b rfl (fun (c : (1951 : Int32) ≤ nI r) => absurd c (nI_ge (b := 1951) (by omega) (by decide))) (fun _ => ?_)
    iterate 2 refine Wp.p rfl ?_
    refine Wp.b rfl (fun (c : S.1 85 = 0) => ?_) (fun (c : ¬ S.1 85 = 0) => ?_)
    · exact Wp.r rfl trivial (h S hR c)
    · have hm' := hm.resolve_left c
      iterate 2 refine Wp.p rfl ?_
      refine (?_ : Wp (d + 6) n_X2_settle 70 [(2, .int (nI 0)), (1, .int (nI r)), (0, .ref 2)] [] S Q).sub (lS.mk rfl rfl (by repeat (first | exact lSub.nil | refine lSub.cons rfl ?_)))
      refine s_O_round (T0 := cO S) (fun S' hR' hle hg => ih (r + 1) S' (by omega) hR' ?_) P.1 0 S (by omega) hR oLe.rf (Or.inr (fun s _ => Nat.zero_le s))
      rcases hg with g | g
      · have := muT_lt hle g hR'.2.1.2.1 hP
        exact Or.inr (by omega)
      · refine Or.inl (Decidable.not_not.mp (fun z => ?_))
        obtain ⟨s, hs, e⟩ := ne0_bit.mp z
        have a := g s e
        have b := (hR'.2.1.2.2.1 s hs (hR'.2.1.2.2.2.2.2 s e)).1
        omega
theorem s_O_settle {d : Nat} {S : mS} {Q : mQ} {P : oP} (hq : oQ P S) (hl : ¬ S.1 86 = 0 → Lst P (cO S))
    (h : ∀ S', Fr [84, 85, 86] [181, 182, 183] S S' → ¬ S'.1 86 = 0 → Lst P (cO S') → Q none S') : Ev (d + 6) n_X2_settle [.ref 2] S Q := by
  iterate 2 refine Wp.p rfl ?_
  refine Wp.b rfl (fun (c : S.1 86 = 0) => ?_) (fun (c : ¬ S.1 86 = 0) => ?_)
  case refine_2 => exact Wp.r rfl trivial (h S Fr.rf c (hl c))
  iterate 2 refine Wp.p rfl ?_
  refine Wp.g rfl (Or.inr rfl) ?_
  iterate 3 refine Wp.p rfl ?_
  refine Wp.i rfl (s_fill181 (fun S1 F1 v1 => ?_))
  iterate 3 refine Wp.p rfl ?_
  refine Wp.i rfl (s_fill182 (fun S2 F2 v2 => ?_))
  iterate 3 refine Wp.p rfl ?_
  refine Wp.i rfl (s_fill183 (fun S3 F3 v3 => ?_))
  iterate 8 refine Wp.p rfl ?_
  refine (?_ : Wp (d + 6) n_X2_settle 49 [(0, .ref 2)] [.int (nI 0), .ref 2] (sF (sF S3 84 0) 85 0) Q)
  have FA : Fr [84, 85, 86] [181, 182, 183] S (sF (sF S3 84 0) 85 0) := ((((((Fr.rf (fs := [84, 85, 86]) (as := [181, 182, 183]) (S := S)).f (q := 86) (x := 1) (by decide)).tr (F1.up (fun _ z => by cases z) (by decide))).tr (F2.up (fun _ z => by cases z) (by decide))).tr (F3.up (fun _ z => by cases z) (by decide))).f (by decide)).f (by decide)
  have f84 : (sF (sF S3 84 0) 85 0).1 84 = 0 := rfl
  have f85 : (sF (sF S3 84 0) 85 0).1 85 = 0 := rfl
  have f86 : (sF (sF S3 84 0) 85 0).1 86 = 1 := by
    show S3.1 86 = 1
    rw [F3.1 _ List.not_mem_nil, F2.1 _ List.not_mem_nil, F1.1 _ List.not_mem_nil]
    rfl
  have a1 : ∀ q, q < 192 → (sF (sF S3 84 0) 85 0).2.2 181 q = 0 := fun q hq => by
    show S3.2.2 181 q = 0
    rw [F3.2.2 181 (by decide), F2.2.2 181 (by decide), v1]
    exact fillC_in (by omega) (by omega)
  have a2 : ∀ q, q < 3 → (sF (sF S3 84 0) 85 0).2.2 182 q = 1 := fun q hq => by
    show S3.2.2 182 q = 1
    rw [F3.2.2 182 (by decide), v2]
    exact fillC_in (by omega) (by omega)
  have a3 : ∀ q, q < 6 → (sF (sF S3 84 0) 85 0).2.2 183 q = 1 := fun q hq => by
    show S3.2.2 183 q = 1
    rw [v3]
    exact fillC_in (by omega) (by omega)
  revert FA f84 f85 f86 a1 a2 a3
  generalize sF (sF S3 84 0) 85 0 = SA
  intro FA f84 f85 f86 a1 a2 a3
  have qA : oQ P SA := hq.fr FA (by decide) (by decide)
  have hn := hq.1.1
  have cA : CI P SA := by
    refine ⟨qA, fun U hU hB => ⟨fun q hq => ?_, fun w hw => ?_, fun s hs e => ?_⟩, fun s hs e => ?_, fun s hs _ v hv => a1 _ (by omega), fun w hw => by rw [a2 w hw]; exact le.rf, fun s e => ?_⟩
    · show le (SA.2.2 181 q) _
      rw [a1 q hq]; exact le.zero
    · show le (SA.2.2 182 w) _
      rw [a2 w hw]; exact hB.2 w hw
    · have e : hb (SA.1 84) s = true := e
      rw [f84, hb_0] at e; cases e
    · rw [f84, hb_0] at e; cases e
    · rw [f85, hb_0] at e; cases e
  have t0 : tn (nI 0) = 0 := tn_nI (by decide)
  refine Wp.i rfl (s_O_goTo (t := fun _ => 1) cA a3 (fun _ _ => by decide) (fun _ b U hU hB => ?_) (fun SB gB cB _ iB => ?_))
  · rw [t0]
    have z : 0 < P.1 := (nI_ltI (by decide) (by omega)).mp b
    have := hB.1 z
    exact ⟨this.1, fun v hv => by rw [show 6 * 0 + v = v from by omega]; exact this.2 v hv⟩
  iterate 2 refine Wp.p rfl ?_
  refine (?_ : Wp (d + 6) n_X2_settle 54 [(1, .int (nI 0)), (0, .ref 2)] [] SB Q).sub (lS.mk rfl rfl (by repeat (first | exact lSub.nil | refine lSub.cons rfl ?_)))
  refine s_O_rounds (S0 := SB) (fun S' hR w0 => ?_) 1951 0 SB (by omega) ⟨Fr.rf, cB, ⟨fun z => ?_, fun w hw => cB.2.2.2.2.1 w hw⟩, fun s hs e w => ?_⟩ (Or.inr (Nat.zero_le _))
  · refine h S' ((FA.tr (gB.1.up (by decide) (by decide))).tr (hR.1.up (by decide) (by decide))) ?_ ⟨hR.2.1.2.1, fun s hs e => hR.2.2.2 s hs e (fun z => ?_), hR.2.2.1, fun s hs e => (hR.2.1.2.2.1 s hs e).2⟩
    · rw [hR.1.1 86 (by decide), gB.1.1 86 (by decide), f86]
      decide
    · rw [w0, hb_0] at z; cases z
  · have := iB (by decide) (by rw [show (nI 0) = nI 0 from rfl]; exact nI_lt z (by omega))
    rw [t0] at this
    exact ⟨this.1, fun v hv => by have := this.2 v hv; rw [show 6 * 0 + v = v from by omega] at this; exact this⟩
  · have := (gB.2.2.2.1 s (by omega) w).2.1 e
    rw [f84, hb_0] at this
    cases this
