/-- where cells may be moved to, from, by kinds -/
def MV (m : Int32) : Int32 := (if sh m 32 then 32 else 0) ||| (if sh m 64 then 64 else 0) ||| (if sh m 896 then 896 else 0)
/-- arrays that take, kinds taken, cells of -/
def TK (m : Int32) : Int32 := (if sh m 31 then 128 else 0) ||| (if sh m 25 then 256 else 0)
def KT (m : Int32) : Int32 := (if sh m 128 then 31 else 0) ||| (if sh m 256 then 25 else 0)
def CO (m : Int32) (al : Nat → Int32) : Int32 := (if sh m 128 then al 1 else 0) ||| (if sh m 256 then al 2 else 0)
def kB (r : Nat → Int32) (i : Nat) (x : Int32) (j : Nat) (y : Int32) : Nat → Int32 := upd (upd r i (r i &&& x)) j (upd r i (r i &&& x) j &&& y)
abbrev oE : Type := Int32 × (Nat → Int32)
/-- where a step leads to without a fault, with what may be there -/
def egF (k : Nat) (nx a b c : Int32) (al r : Nat → Int32) : List oE := match k with
  | 0 => [(nx, upd r (tn a) 1)]
  | 1 => [(nx, upd r (tn a) (1 <<< (b &&& 31)))]
  | 2 => [(nx, upd r (tn a) (1 <<< (b &&& 31)))]
  | 3 => [(nx, upd r (tn a) (r (tn b)))]
  | 4 => [(c, upd r (tn a) (r (tn a) &&& m_sv 500 (tn b))), (nx, upd r (tn a) (r (tn a) &&& (m_sv 500 (tn b) ^^^ -1)))]
  | 5 => [(c, upd r (tn a) (r (tn a) &&& 1)), (nx, upd r (tn a) (r (tn a) &&& -2))]
  | 6 => [(nx, upd (upd r (tn a) (r (tn a) &&& (m_sv 500 (tn b) ||| 1))) (tn c) (r (tn a) &&& (m_sv 500 (tn b) ||| 1)))]
  | 7 => if sh (r (tn b)) 30 then [(nx, upd (upd r (tn b) (r (tn b) &&& 30)) (tn a) (al 0))] else []
  | 8 => [(nx, upd r (tn a) (r (tn a) &&& 30))]
  | 9 => if sh (r (tn b)) 384 then [(nx, upd (upd r (tn b) (r (tn b) &&& 384)) (tn a) (CO (r (tn b)) al))] else []
  | 10 => [(nx, kB r (tn a) (TK (r (tn b))) (tn b) (KT (r (tn a))))]
  | 11 => [(nx, upd r (tn b) (r (tn b) &&& 20))]
  | 12 => [(nx, upd r (tn b) (r (tn b) &&& 20))]
  | 13 => [(nx, upd r (tn b) (r (tn b) &&& 992))]
  | 14 => [(nx, upd r (tn b) (r (tn b) &&& 32))]
  | 15 => [(nx, upd r (tn a) (r (tn a) &&& 32))]
  | 19 => [(c, r), (nx, r)]
  | 20 => [(a, r)]
  | 21 => []
  | 22 => [(nx, kB r (tn a) (MV (r (tn b))) (tn b) (MV (r (tn a))))]
  | 23 => []
  | _ => [(nx, r)]
/-- what a step brings into nexts and cells -/
def adS (k : Nat) (a b : Int32) (al r : Nat → Int32) : List (Nat × Int32) := match k with
  | 8 => if sh (r (tn a)) 30 then [(0, r (tn b))] else []
  | 10 => [(1, if sh (r (tn a)) 128 then r (tn b) &&& 31 else 0), (2, if sh (r (tn a)) 256 then r (tn b) &&& 25 else 0)]
  | 22 => [(2, if sh (r (tn a)) 128 ∧ sh (r (tn b)) 256 then al 1 &&& 25 else 0), (1, if sh (r (tn a)) 256 ∧ sh (r (tn b)) 128 then al 2 &&& 31 else 0)]
  | _ => []
def castF (m K : Int32) : Int32 := if sh m ((K ||| 1) ^^^ -1) then 4 else 0
def useF (m K : Int32) : Int32 := castF m K ||| (if sh m 1 then 2 else 0)
def cellF (m K : Int32) : Int32 := castF m K ||| (if sh m 1 then 2 else 0) ||| (if sh m K then 8 else 0)
def lenF (m : Int32) : Int32 := (if sh m 1 then 2 else 0) ||| (if sh m 30 then 4 else 0)
def setF (x y : Int32) : Int32 := if y &&& 31 = 0 then castF x 384 ||| castF y 30 else castF x 384 ||| castF y 30 ||| cellF x 384 ||| (if sh x 256 ∧ sh y 6 then 16 else 0)
def cellI (x : Nat) (al : Nat → Int32) : Int32 := if x = 7 then al 1 else if x = 8 then al 2 else m_sv 501 x
abbrev unF (x : Nat) (t : Int32) (al : Nat → Int32) : Prop := ¬ t &&& m_sv 502 x = t ∨ (hb (t &&& m_sv 502 x) 7 = true ∧ sh (cellI x al) (31 ^^^ -1)) ∨ (hb (t &&& m_sv 502 x) 8 = true ∧ sh (cellI x al) (25 ^^^ -1)) ∨ (hb (t &&& m_sv 502 x) 9 = true ∧ sh (cellI x al) (33 ^^^ -1))
def frX (x : Nat) (t : Int32) (al : Nat → Int32) : Int32 := (if unF x t al then 16 else 0) ||| (if sh t (m_sv 502 x) then 8 else 0)
/-- the faults of MOVE, from the first n kinds behind nothing -/
def mvX (f t : Int32) (al : Nat → Int32) : Nat → Int32
  | 0 => if sh (f ||| t) 1 then 2 else 0
  | n + 1 => mvX f t al n ||| (if hb f (n + 1) = true then frX (n + 1) (t &&& -2) al else 0)
/-- the faults that a step can have -/
def ftF (k : Nat) (a b : Int32) (al r : Nat → Int32) : Int32 := match k with
  | 1 => 256
  | 2 => 288
  | 6 => castF (r (tn a)) (m_sv 500 (tn b))
  | 7 => useF (r (tn b)) 30
  | 8 => useF (r (tn a)) 30
  | 9 => cellF (r (tn b)) 384
  | 10 => setF (r (tn a)) (r (tn b))
  | 11 => useF (r (tn b)) 20
  | 12 => useF (r (tn b)) 20
  | 13 => lenF (r (tn b))
  | 14 => cellF (r (tn b)) 32
  | 15 => cellF (r (tn a)) 32
  | 18 => 64
  | 21 => 128
  | 22 => mvX (r (tn a)) (r (tn b)) al 9
  | _ => 0
-- they grow
theorem upd_le {r r' : Nat → Int32} {i : Nat} {x x' : Int32} (h : ∀ v, le (r v) (r' v)) (hx : le x x') : ∀ v, le (upd r i x v) (upd r' i x' v) := fun v => by
  by_cases e : v = i
  · rw [show upd r i x v = x from if_pos e, show upd r' i x' v = x' from if_pos e]; exact hx
  · rw [show upd r i x v = r v from if_neg e, show upd r' i x' v = r' v from if_neg e]; exact h v
theorem MV_le {m m' : Int32} (h : le m m') : le (MV m) (MV m') := ((le.ite (h.sh le.rf) le.rf).or (le.ite (h.sh le.rf) le.rf)).or (le.ite (h.sh le.rf) le.rf)
theorem TK_le {m m' : Int32} (h : le m m') : le (TK m) (TK m') := (le.ite (h.sh le.rf) le.rf).or (le.ite (h.sh le.rf) le.rf)
theorem KT_le {m m' : Int32} (h : le m m') : le (KT m) (KT m') := (le.ite (h.sh le.rf) le.rf).or (le.ite (h.sh le.rf) le.rf)
theorem CO_le {m m' : Int32} {al al' : Nat → Int32} (h : le m m') (ha : ∀ w, le (al w) (al' w)) : le (CO m al) (CO m' al') := (le.ite (h.sh le.rf) (ha 1)).or (le.ite (h.sh le.rf) (ha 2))
theorem kB_le {r r' : Nat → Int32} {i j : Nat} {x x' y y' : Int32} (h : ∀ v, le (r v) (r' v)) (hx : le x x') (hy : le y y') : ∀ v, le (kB r i x j y v) (kB r' i x' j y' v) :=
  upd_le (upd_le h ((h i).and hx)) ((upd_le h ((h i).and hx) j).and hy)
def eLe (e e' : oE) : Prop := e'.1 = e.1 ∧ ∀ v, le (e.2 v) (e'.2 v)
theorem eg1 {t : Int32} {f f' : Nat → Int32} (h : ∀ v, le (f v) (f' v)) : ∀ e ∈ [((t, f) : oE)], ∃ e' ∈ [((t, f') : oE)], eLe e e' := fun e he => by
  rw [List.mem_singleton] at he
  subst he
  exact ⟨(t, f'), List.mem_singleton.mpr rfl, rfl, h⟩
theorem eg2 {t u : Int32} {f f' g g' : Nat → Int32} (h : ∀ v, le (f v) (f' v)) (h2 : ∀ v, le (g v) (g' v)) : ∀ e ∈ [((t, f) : oE), (u, g)], ∃ e' ∈ [((t, f') : oE), (u, g')], eLe e e' := fun e he => by
  rw [List.mem_cons, List.mem_singleton] at he
  rcases he with rfl | rfl
  · exact ⟨(t, f'), List.mem_cons_self, rfl, h⟩
  · exact ⟨(u, g'), List.mem_cons_of_mem _ (List.mem_singleton.mpr rfl), rfl, h2⟩
theorem eg_mono {k : Nat} {nx a b c : Int32} {al al' r r' : Nat → Int32} (h : ∀ v, le (r v) (r' v)) (ha : ∀ w, le (al w) (al' w)) : ∀ e ∈ egF k nx a b c al r, ∃ e' ∈ egF k nx a b c al' r', eLe e e' := by
  unfold egF
  split
  · exact eg1 (upd_le h le.rf)
  · exact eg1 (upd_le h le.rf)
  · exact eg1 (upd_le h le.rf)
  · exact eg1 (upd_le h (h _))
  · exact eg2 (upd_le h ((h _).and le.rf)) (upd_le h ((h _).and le.rf))
  · exact eg2 (upd_le h ((h _).and le.rf)) (upd_le h ((h _).and le.rf))
  · exact eg1 (upd_le (upd_le h ((h _).and le.rf)) ((h _).and le.rf))
  · intro e he
    split at he
    · next c1 =>
      rw [if_pos ((h _).sh le.rf c1)]
      exact eg1 (upd_le (upd_le h ((h _).and le.rf)) (ha 0)) e he
    · cases he
  · exact eg1 (upd_le h ((h _).and le.rf))
  · intro e he
    split at he
    · next c1 =>
      rw [if_pos ((h _).sh le.rf c1)]
      exact eg1 (upd_le (upd_le h ((h _).and le.rf)) (CO_le (h _) ha)) e he
    · cases he
  · exact eg1 (kB_le h (TK_le (h _)) (KT_le (h _)))
  · exact eg1 (upd_le h ((h _).and le.rf))
  · exact eg1 (upd_le h ((h _).and le.rf))
  · exact eg1 (upd_le h ((h _).and le.rf))
  · exact eg1 (upd_le h ((h _).and le.rf))
  · exact eg1 (upd_le h ((h _).and le.rf))
  · exact eg2 h h
  · exact eg1 h
  · intro e he; cases he
  · exact eg1 (kB_le h (MV_le (h _)) (MV_le (h _)))
  · intro e he; cases he
  · exact eg1 h
theorem ad2 {i j : Nat} {x x' y y' : Int32} (h : le x x') (h2 : le y y') : ∀ p ∈ [(i, x), (j, y)], ∃ p' ∈ [(i, x'), (j, y')], p'.1 = p.1 ∧ le p.2 p'.2 := fun e he => by
  rw [List.mem_cons, List.mem_singleton] at he
  rcases he with rfl | rfl
  · exact ⟨(i, x'), List.mem_cons_self, rfl, h⟩
  · exact ⟨(j, y'), List.mem_cons_of_mem _ (List.mem_singleton.mpr rfl), rfl, h2⟩
theorem ad_mono {k : Nat} {a b : Int32} {al al' r r' : Nat → Int32} (h : ∀ v, le (r v) (r' v)) (ha : ∀ w, le (al w) (al' w)) : ∀ p ∈ adS k a b al r, ∃ p' ∈ adS k a b al' r', p'.1 = p.1 ∧ le p.2 p'.2 := by
  unfold adS
  split
  · intro p hp
    split at hp
    · next c1 =>
      rw [if_pos ((h _).sh le.rf c1)]
      rw [List.mem_singleton] at hp
      subst hp
      exact ⟨_, List.mem_singleton.mpr rfl, rfl, h _⟩
    · cases hp
  · exact ad2 (le.ite ((h _).sh le.rf) ((h _).and le.rf)) (le.ite ((h _).sh le.rf) ((h _).and le.rf))
  · exact ad2 (le.ite (fun z => ⟨(h _).sh le.rf z.1, (h _).sh le.rf z.2⟩) ((ha _).and le.rf)) (le.ite (fun z => ⟨(h _).sh le.rf z.1, (h _).sh le.rf z.2⟩) ((ha _).and le.rf))
  · intro p hp; cases hp
theorem or_ne {x y : Int32} : ¬ x ||| y = 0 ↔ ¬ x = 0 ∨ ¬ y = 0 := by
  constructor
  · intro h
    by_cases c : x = 0
    · refine Or.inr (fun z => h ?_)
      rw [c, z]; rfl
    · exact Or.inl c
  · rintro (h | h)
    · exact le.ne le.orl h
    · exact le.ne le.orr h
theorem ite_ne {p : Prop} [Decidable p] {c : Int32} (hc : ¬ c = 0) : ¬ (if p then c else 0) = 0 ↔ p := by
  by_cases h : p
  · rw [if_pos h]; exact ⟨fun _ => h, fun _ => hc⟩
  · rw [if_neg h]; exact ⟨fun z => absurd rfl z, fun z => absurd z h⟩
theorem castF_ne {m m' K : Int32} (h : le m m') (h2 : ¬ castF m K = 0) : ¬ castF m' K = 0 := (ite_ne (by decide)).mpr (h.sh le.rf ((ite_ne (by decide)).mp h2))
theorem useF_ne {m m' K : Int32} (h : le m m') (h2 : ¬ useF m K = 0) : ¬ useF m' K = 0 := or_ne.mpr ((or_ne.mp h2).imp (castF_ne h) (fun z => (ite_ne (by decide)).mpr (h.sh le.rf ((ite_ne (by decide)).mp z))))
theorem cellF_ne {m m' K : Int32} (h : le m m') (h2 : ¬ cellF m K = 0) : ¬ cellF m' K = 0 := or_ne.mpr ((or_ne.mp h2).imp (useF_ne h) (fun z => (ite_ne (by decide)).mpr (h.sh le.rf ((ite_ne (by decide)).mp z))))
theorem lenF_ne {m m' : Int32} (h : le m m') (h2 : ¬ lenF m = 0) : ¬ lenF m' = 0 := or_ne.mpr ((or_ne.mp h2).imp (fun z => (ite_ne (by decide)).mpr (h.sh le.rf ((ite_ne (by decide)).mp z))) (fun z => (ite_ne (by decide)).mpr (h.sh le.rf ((ite_ne (by decide)).mp z))))
theorem setF_ne {x x' y y' : Int32} (h : le x x') (h' : le y y') (h2 : ¬ setF x y = 0) : ¬ setF x' y' = 0 := by
  unfold setF at h2 ⊢
  have base : ¬ castF x 384 ||| castF y 30 = 0 → ¬ castF x' 384 ||| castF y' 30 = 0 := fun z => or_ne.mpr ((or_ne.mp z).imp (castF_ne h) (castF_ne h'))
  by_cases c : y &&& 31 = 0
  · rw [if_pos c] at h2
    split
    · exact base h2
    · exact or_ne.mpr (Or.inl (or_ne.mpr (Or.inl (base h2))))
  · rw [if_neg c] at h2
    rw [if_neg (h'.sh le.rf c)]
    exact or_ne.mpr ((or_ne.mp h2).imp (fun z => or_ne.mpr ((or_ne.mp z).imp base (cellF_ne h))) (fun z => (ite_ne (by decide)).mpr (by
      have := (ite_ne (by decide)).mp z
      exact ⟨h.sh le.rf this.1, h'.sh le.rf this.2⟩)))
theorem frX_ne {x : Nat} {t : Int32} {al : Nat → Int32} : ¬ frX x t al = 0 ↔ ¬ t = 0 := by
  unfold frX
  rw [or_ne, ite_ne (by decide), ite_ne (by decide)]
  constructor
  · rintro (h | h) z
    · subst z
      have z0 : (0 : Int32) &&& m_sv 502 x = 0 := le.andl.eq le.zero
      rcases h with h | ⟨h, -⟩ | ⟨h, -⟩ | ⟨h, -⟩
      · exact h z0
      · rw [z0, hb_0] at h; cases h
      · rw [z0, hb_0] at h; cases h
      · rw [z0, hb_0] at h; cases h
    · subst z
      exact h (le.andl.eq le.zero)
  · intro h
    by_cases c : t &&& m_sv 502 x = t
    · refine Or.inr (fun z => h ?_)
      rw [← c]
      exact z
    · exact Or.inl (Or.inl c)
theorem mvX_ne {f f' t t' : Int32} {al al' : Nat → Int32} (h : le f f') (h' : le t t') : ∀ n, ¬ mvX f t al n = 0 → ¬ mvX f' t' al' n = 0 := by
  intro n
  induction n with
  | zero =>
    intro z
    exact (ite_ne (by decide)).mpr ((h.or h').sh le.rf ((ite_ne (by decide)).mp z))
  | succ n ih =>
    intro z
    refine or_ne.mpr ((or_ne.mp z).imp ih (fun w => ?_))
    by_cases c : hb f (n + 1) = true
    · rw [if_pos c] at w
      rw [if_pos (h _ c)]
      exact frX_ne.mpr ((h'.and le.rf).ne (frX_ne.mp w))
    · rw [if_neg c] at w
      exact absurd rfl w
theorem ft_mono {k : Nat} {a b : Int32} {al al' r r' : Nat → Int32} (h : ∀ v, le (r v) (r' v)) : ¬ ftF k a b al r = 0 → ¬ ftF k a b al' r' = 0 := by
  unfold ftF
  split
  · exact id
  · exact id
  · exact castF_ne (h _)
  · exact useF_ne (h _)
  · exact useF_ne (h _)
  · exact cellF_ne (h _)
  · exact setF_ne (h _) (h _)
  · exact useF_ne (h _)
  · exact useF_ne (h _)
  · exact lenF_ne (h _)
  · exact cellF_ne (h _)
  · exact cellF_ne (h _)
  · exact id
  · exact id
  · exact mvX_ne (h _) (h _) 9
  · exact id
