/-- what the class has so far -/
def cO (S : mS) : oT := (S.2.2 181, S.2.2 182, fun s => hb (S.1 84) s)
def oQ (P : oP) (S : mS) : Prop := oPW P ∧ S.1 125 = nI P.1 ∧ S.2.2 220 = P.2.1 ∧ S.2.2 221 = P.2.2.1 ∧ S.2.2 222 = P.2.2.2.1 ∧ S.2.2 223 = P.2.2.2.2.1 ∧ S.2.2 224 = P.2.2.2.2.2
def CI (P : oP) (S : mS) : Prop := oQ P S ∧ Bel P (cO S) ∧ (∀ s, s < 32 → hb (S.1 84) s = true → s < P.1 ∧ ∀ v, v < 6 → ¬ S.2.2 181 (6 * s + v) = 0) ∧ (∀ s, s < 32 → ¬ hb (S.1 84) s = true → ∀ v, v < 6 → S.2.2 181 (6 * s + v) = 0) ∧ (∀ w, w < 3 → le 1 (S.2.2 182 w)) ∧ ∀ s, hb (S.1 85) s = true → hb (S.1 84) s = true
/-- the sets grow; what isn't waiting stays as it was -/
def Gr (S S' : mS) : Prop := Fr [84, 85] [181, 182, 183] S S' ∧ oLe (cO S) (cO S') ∧ (∀ s, hb (S.1 85) s = true → hb (S'.1 85) s = true) ∧ (∀ s, s < 32 → ¬ hb (S'.1 85) s = true → (∀ v, v < 6 → S'.2.2 181 (6 * s + v) = S.2.2 181 (6 * s + v)) ∧ (hb (S'.1 84) s = true → hb (S.1 84) s = true) ∧ (hb (S.1 84) s = true → ∀ w, w < 3 → S'.2.2 182 w = S.2.2 182 w)) ∧ ∀ s, hb (S'.1 85) s = true → hb (S.1 85) s = true ∨ oGt (cO S) (cO S')
theorem Gr.tr {S S' S'' : mS} (h : Gr S S') (g : Gr S' S'') : Gr S S'' := by
  refine ⟨h.1.tr g.1, h.2.1.tr g.2.1, fun s e => g.2.2.1 s (h.2.2.1 s e), fun s hs e => ?_, fun s e => ?_⟩
  · have a := g.2.2.2.1 s hs e
    have b := h.2.2.2.1 s hs (fun z => e (g.2.2.1 s z))
    exact ⟨fun v hv => (a.1 v hv).trans (b.1 v hv), fun z => b.2.1 (a.2.1 z), fun z w hw => (a.2.2 (h.2.1.2.2 s hs z) w hw).trans (b.2.2 z w hw)⟩
  · rcases g.2.2.2.2 s e with z | z
    · rcases h.2.2.2.2 s z with y | y
      · exact Or.inl y
      · exact Or.inr (y.l g.2.1)
    · exact Or.inr (oGt.r h.2.1 z)
/-- only the sets that are then change -/
theorem Gr.af {S S' : mS} (h : Fr [] [183] S S') : Gr S S' := by
  have f : ∀ q, S'.1 q = S.1 q := fun q => h.1 q List.not_mem_nil
  have a1 : S'.2.2 181 = S.2.2 181 := h.2.2 _ (by decide)
  have a2 : S'.2.2 182 = S.2.2 182 := h.2.2 _ (by decide)
  have e : cO S' = cO S := by unfold cO; rw [a1, a2, f]
  refine ⟨h.up (fun q hq => by cases hq) (by decide), by rw [e]; exact oLe.rf, fun s z => by rw [f]; exact z, fun s hs z => ⟨fun v hv => by rw [a1], fun y => by rw [f] at y; exact y, fun _ w hw => by rw [a2]⟩, fun s z => Or.inl (by rw [f] at z; exact z)⟩
theorem oQ.fr {P : oP} {S S' : mS} {fs as : List Nat} (h : oQ P S) (g : Fr fs as S S') (h1 : 125 ∉ fs) (h2 : ∀ a, a ∈ [220, 221, 222, 223, 224] → a ∉ as) : oQ P S' := by
  obtain ⟨a, b, c0, c1, c2, c3, c4⟩ := h
  exact ⟨a, by rw [g.1 _ h1]; exact b, by rw [g.2.2 _ (h2 220 (by decide))]; exact c0, by rw [g.2.2 _ (h2 221 (by decide))]; exact c1, by rw [g.2.2 _ (h2 222 (by decide))]; exact c2, by rw [g.2.2 _ (h2 223 (by decide))]; exact c3, by rw [g.2.2 _ (h2 224 (by decide))]; exact c4⟩
theorem CI.af {P : oP} {S S' : mS} (c : CI P S) (h : Fr [] [183] S S') : CI P S' := by
  have f : ∀ q, S'.1 q = S.1 q := fun q => h.1 q List.not_mem_nil
  have a1 : S'.2.2 181 = S.2.2 181 := h.2.2 _ (by decide)
  have a2 : S'.2.2 182 = S.2.2 182 := h.2.2 _ (by decide)
  have e : cO S' = cO S := by unfold cO; rw [a1, a2, f]
  obtain ⟨c1, c2, c3, c4, c5, c6⟩ := c
  refine ⟨c1.fr h List.not_mem_nil (by decide), by rw [e]; exact c2, ?_, ?_, ?_, ?_⟩
  · rw [f, a1]; exact c3
  · rw [f, a1]; exact c4
  · rw [a2]; exact c5
  · rw [f, f]; exact c6
theorem hb_set {x : Int32} {k j : Nat} (hk : k < 32) : hb (x ||| 1 <<< (nI k &&& 31)) j = true ↔ hb x j = true ∨ j = k := by
  rw [hb_or, hb_shl hk, Bool.or_eq_true, decide_eq_true_iff]
theorem le_m {x : Int32} (h : le 1 x) : ¬ x = 0 := h.ne (by decide)
theorem s_O_goTo {d : Nat} {S : mS} {Q : mQ} {P : oP} {to : Int32} {t : Nat → Int32} (hc : CI P S) (ht : ∀ v, v < 6 → S.2.2 183 v = t v) (hn : ∀ v, v < 6 → ¬ t v = 0) (hb' : 0 ≤ to → to < nI P.1 → BE P (tn to) t)
    (h : ∀ S', Gr S S' → CI P S' → (∀ v, S'.2.2 183 v = S.2.2 183 v) → (0 ≤ to → to < nI P.1 → oIn (cO S') (tn to) t) → Q none S') : Ev (d + 1) n_X2_goTo [.ref 2, .int to] S Q := by
  have h125 := hc.1.2.1
  have hn32 := hc.1.1.1
  by_cases c : 0 ≤ to ∧ to < nI P.1
  case neg =>
    refine s_O_goTo_out (by rw [h125]; exact c) (h S ?_ hc (fun _ => rfl) (fun a b => absurd ⟨a, b⟩ c))
    exact Gr.af Fr.rf
  obtain ⟨k, hk0, rfl⟩ := nI_of (Int32.not_lt.mpr c.1)
  have hk : k < P.1 := (nI_ltI hk0 (by omega)).mp c.2
  have tk : tn (nI k) = k := tn_nI hk0
  have hbe := hb' c.1 c.2
  rw [tk] at hbe h
  refine s_O_goTo_raw (by omega) (by rw [h125]; exact c.2) (fun S' hF hq hv h84 h85 => ?_)
  have a2 : S'.2.2 182 = S.2.2 182 := hF.2.2 _ (by decide)
  have a3 : S'.2.2 183 = S.2.2 183 := hF.2.2 _ (by decide)
  have row : ∀ s, s < 32 → ¬ s = k → ∀ v, v < 6 → S'.2.2 181 (6 * s + v) = S.2.2 181 (6 * s + v) := fun s hs e v hv => hq _ (fun w hw => by omega)
  have r84 : ∀ s, hb (S'.1 84) s = true ↔ hb (S.1 84) s = true ∨ s = k := fun s => by rw [h84]; exact hb_set (by omega)
  have hle : oLe (cO S) (cO S') := by
    refine ⟨fun q _ => ?_, fun w _ => by show le (S.2.2 182 w) (S'.2.2 182 w); rw [a2]; exact le.rf, fun s _ e => (r84 s).mpr (Or.inl e)⟩
    show le (S.2.2 181 q) (S'.2.2 181 q)
    by_cases e : ∃ v, v < 6 ∧ q = 6 * k + v
    · obtain ⟨v, hv6, rfl⟩ := e
      rw [hv v hv6]
      exact le.orl
    · rw [hq q (fun v hv z => e ⟨v, hv, z⟩)]
      exact le.rf
  have w85 : ∀ s, hb (S.1 85) s = true → hb (S'.1 85) s = true := fun s e => by
    rcases h85 with ⟨-, z⟩ | ⟨-, z⟩
    · rw [z]; exact (hb_set (by omega)).mpr (Or.inl e)
    · rw [z]; exact e
  have hk85 : ¬ hb (S'.1 85) k = true → (∀ v, v < 6 → le (S.2.2 183 v) (S.2.2 181 (6 * k + v))) := fun e => by
    rcases h85 with ⟨-, z⟩ | ⟨y, -⟩
    · exact absurd (by rw [z]; exact (hb_set (by omega)).mpr (Or.inr rfl)) e
    · exact y
  have rk : (∀ v, v < 6 → le (S.2.2 183 v) (S.2.2 181 (6 * k + v))) → hb (S.1 84) k = true := fun y => by
    refine Decidable.not_not.mp (fun z => ?_)
    have z0 := hc.2.2.2.1 k (by omega) z 0 (by omega)
    have y0 := y 0 (by omega)
    rw [ht 0 (by omega)] at y0
    exact y0.ne (hn 0 (by omega)) z0
  have hgr : Gr S S' := by
    refine ⟨hF.up (fun _ h => h) (by decide), hle, w85, fun s hs e => ?_, fun s e => ?_⟩
    · by_cases e2 : s = k
      · subst e2
        have y := hk85 e
        refine ⟨fun v hv6 => ?_, fun _ => rk y, fun _ w hw => by rw [a2]⟩
        rw [hv v hv6]
        exact (y v hv6).or'
      · exact ⟨row s hs e2, fun z => ((r84 s).mp z).resolve_right e2, fun _ w hw => by rw [a2]⟩
    · rcases h85 with ⟨⟨v, hv6, y⟩, z⟩ | ⟨-, z⟩
      · refine Or.inr (Or.inl ⟨6 * k + v, by omega, fun w => y ?_⟩)
        refine le.tr ?_ w
        show le _ (S'.2.2 181 (6 * k + v))
        rw [hv v hv6]
        exact le.orr
      · rw [z] at e; exact Or.inl e
  have hci : CI P S' := by
    refine ⟨hc.1.fr hF (by decide) (by decide), ?_, fun s hs e => ?_, fun s hs e v hv6 => ?_, by rw [a2]; exact hc.2.2.2.2.1, fun s e => ?_⟩
    · refine hc.2.1.jn hbe (fun q hq' => ?_) (fun w _ => by show S'.2.2 182 w = S.2.2 182 w; rw [a2]) (fun s hs e => (r84 s).mp e)
      show S'.2.2 181 q = S.2.2 181 q ∨ _
      by_cases e : ∃ v, v < 6 ∧ q = 6 * k + v
      · obtain ⟨v, hv6, rfl⟩ := e
        refine Or.inr ⟨v, hv6, rfl, ?_⟩
        show S'.2.2 181 (6 * k + v) = S.2.2 181 (6 * k + v) ||| t v
        rw [hv v hv6, ht v hv6]
      · exact Or.inl (hq q (fun v hv z => e ⟨v, hv, z⟩))
    · by_cases e2 : s = k
      · subst e2
        refine ⟨hk, fun v hv6 => ?_⟩
        rw [hv v hv6, ht v hv6]
        exact le.ne le.orr (hn v hv6)
      · obtain ⟨x, y⟩ := hc.2.2.1 s hs (((r84 s).mp e).resolve_right e2)
        exact ⟨x, fun v hv6 => by rw [row s hs e2 v hv6]; exact y v hv6⟩
    · have e2 : ¬ s = k := fun z => e ((r84 s).mpr (Or.inr z))
      rw [row s hs e2 v hv6]
      exact hc.2.2.2.1 s hs (fun z => e ((r84 s).mpr (Or.inl z))) v hv6
    · rcases h85 with ⟨-, z⟩ | ⟨-, z⟩
      · rw [z] at e
        exact (r84 s).mpr (((hb_set (by omega)).mp e).imp (hc.2.2.2.2.2 s) id)
      · rw [z] at e
        exact (r84 s).mpr (Or.inl (hc.2.2.2.2.2 s e))
  refine h S' hgr hci (fun v => by rw [a3]) (fun _ _ => ⟨(r84 k).mpr (Or.inr rfl), fun v hv6 => ?_⟩)
  show le (t v) (S'.2.2 181 (6 * k + v))
  rw [hv v hv6, ht v hv6]
  exact le.orr
theorem s_O_addToAll {d w : Nat} {S : mS} {Q : mQ} {P : oP} {x : Int32} (hc : CI P S) (hw : w < 3) (hb' : BA P w x)
    (h : ∀ S', Gr S S' → CI P S' → (∀ v, S'.2.2 181 v = S.2.2 181 v) → le x (S'.2.2 182 w) → Q none S') : Ev (d + 1) n_X2_addToAll [.ref 2, .int (nI w), .int x] S Q := by
  have tw : tn (nI w) = w := tn_nI (by omega)
  have iw : vp_in (nI w) 3 := vp_in_nI (N := 3) hw (by omega)
  iterate 4 refine Wp.p rfl ?_
  refine Wp.g rfl iw ?_
  iterate 2 refine Wp.p rfl ?_
  refine Wp.i rfl (s_share (x := x) (y := S.2.2 182 (tn (nI w)) ^^^ -1) (fun e => ?_) (fun e => ?_))
  · rw [tw] at e
    refine Wp.b rfl (fun (e : (1 : Int32) = 0) => absurd e (by decide)) (fun _ => ?_)
    iterate 4 refine Wp.p rfl ?_
    refine Wp.g rfl iw ?_
    iterate 2 refine Wp.p rfl ?_
    refine Wp.g rfl iw ?_
    repeat refine Wp.p rfl ?_
    refine Wp.r rfl trivial ?_
    show Q none (sF (sA S 182 (tn (nI w)) (S.2.2 182 (tn (nI w)) ||| x)) 85 (S.1 85 ||| S.1 84))
    rw [tw]
    have a1 : (sF (sA S 182 w (S.2.2 182 w ||| x)) 85 (S.1 85 ||| S.1 84)).2.2 181 = S.2.2 181 := rfl
    have a2 : (sF (sA S 182 w (S.2.2 182 w ||| x)) 85 (S.1 85 ||| S.1 84)).2.2 182 = upd (S.2.2 182) w (S.2.2 182 w ||| x) := rfl
    have f85 : (sF (sA S 182 w (S.2.2 182 w ||| x)) 85 (S.1 85 ||| S.1 84)).1 85 = S.1 85 ||| S.1 84 := rfl
    have f84 : (sF (sA S 182 w (S.2.2 182 w ||| x)) 85 (S.1 85 ||| S.1 84)).1 84 = S.1 84 := rfl
    have hF : Fr [84, 85] [181, 182, 183] S (sF (sA S 182 w (S.2.2 182 w ||| x)) 85 (S.1 85 ||| S.1 84)) := (Fr.rf.a (by decide)).f (by decide)
    revert hF a1 a2 f85 f84
    generalize sF (sA S 182 w (S.2.2 182 w ||| x)) 85 (S.1 85 ||| S.1 84) = S'
    intro a1 a2 f85 f84 hF
    have up : ∀ i, le (S.2.2 182 i) (S'.2.2 182 i) := fun i => by
      rw [a2]
      by_cases z : i = w
      · rw [z, upd_at]; exact le.orl
      · rw [upd_ne z]; exact le.rf
    have hle : oLe (cO S) (cO S') := ⟨fun q _ => by show le (S.2.2 181 q) (S'.2.2 181 q); rw [a1]; exact le.rf, fun i _ => up i, fun s _ z => by show hb (S'.1 84) s = true; rw [f84]; exact z⟩
    have gt : oGt (cO S) (cO S') := Or.inr ⟨w, hw, fun z => le_sh.mp (le.tr (y := S'.2.2 182 w) (by rw [a2, upd_at]; exact le.orr) z) e⟩
    refine h S' ⟨hF, hle, fun s z => by rw [f85, hb_or, z]; rfl, fun s hs z => ?_, fun s _ => Or.inr gt⟩ ⟨hc.1.fr hF (by decide) (by decide), ?_, ?_, ?_, fun i hi => (hc.2.2.2.2.1 i hi).tr (up i), fun s z => ?_⟩ (fun v => by rw [a1]) (by rw [a2, upd_at]; exact le.orr)
    · rw [f85, hb_or, Bool.or_eq_true] at z
      exact ⟨fun v _ => by rw [a1], fun y => by rw [f84] at y; exact y, fun y => absurd (Or.inr y) z⟩
    · refine hc.2.1.ad hb' (fun q _ => by show S'.2.2 181 q = S.2.2 181 q; rw [a1]) (fun i hi => ?_) (fun s _ z => by have z : hb (S'.1 84) s = true := z; rw [f84] at z; exact z)
      show S'.2.2 182 i = S.2.2 182 i ∨ i = w ∧ S'.2.2 182 i = S.2.2 182 i ||| x
      rw [a2]
      by_cases z : i = w
      · rw [z, upd_at]; exact Or.inr ⟨rfl, rfl⟩
      · rw [upd_ne z]; exact Or.inl rfl
    · rw [f84, a1]; exact hc.2.2.1
    · rw [f84, a1]; exact hc.2.2.2.1
    · rw [f85, hb_or, Bool.or_eq_true] at z
      rw [f84]
      exact z.elim (hc.2.2.2.2.2 s) id
  · rw [tw] at e
    refine Wp.b rfl (fun _ => ?_) (fun (e : ¬ (0 : Int32) = 0) => absurd rfl e)
    repeat refine Wp.p rfl ?_
    exact Wp.r rfl trivial (h S (Gr.af Fr.rf) hc (fun _ => rfl) (le_sh.mpr (fun z => z e)))
