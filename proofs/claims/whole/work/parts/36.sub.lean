/-- locals without longs -/
def lC1 (ls : mL) : Bool := ls.all (fun q => Nat.beq q.2.category 1)
/-- what the one finds, the other finds too -/
def lSub (ls ls' : mL) : Prop := ∀ i v, m_gl ls i = some v → m_gl ls' i = some v
def lS (ls ls' : mL) : Prop := lSub ls ls' ∧ lC1 ls = true ∧ lC1 ls' = true
theorem lSub.nil {ls' : mL} : lSub [] ls' := fun i v h => by cases h
theorem lSub.cons {ls ls' : mL} {k : Nat} {w : Value} (h : m_gl ls' k = some w) (h2 : lSub ls ls') : lSub ((k, w) :: ls) ls' := fun i v hv => by
  cases e : Nat.beq k i with
  | true =>
    have e2 : k = i := Nat.eq_of_beq_eq_true e
    have : m_gl ((k, w) :: ls) i = some w := by unfold m_gl; rw [e]; rfl
    rw [this] at hv
    rw [← e2, h]
    exact hv
  | false =>
    have : m_gl ((k, w) :: ls) i = m_gl ls i := by rw [show m_gl ((k, w) :: ls) i = (bif Nat.beq k i then some w else m_gl ls i) from rfl, e]; rfl
    rw [this] at hv
    exact h2 i v hv
theorem gl_filter {k : Nat} : ∀ {ls : mL} {j : Nat}, lC1 ls = true → Nat.beq k j = false → m_gl (ls.filter (fun q => !(q.1 == k) && !(q.1 + 1 == k && q.2.category == 2))) j = m_gl ls j := by
  intro ls
  induction ls with
  | nil => intro j _ _; rfl
  | cons q ls ih =>
    intro j h1 hj
    obtain ⟨a, v⟩ := q
    have h2 : (Nat.beq v.category 1 && lC1 ls) = true := h1
    have h3 : Nat.beq v.category 1 = true := by cases hh : Nat.beq v.category 1 <;> rw [hh] at h2 <;> first | rfl | cases h2
    have h4 : lC1 ls = true := by rw [h3] at h2; exact h2
    have h5 : (v.category == 2) = false := by rw [Nat.eq_of_beq_eq_true h3]; rfl
    rw [List.filter_cons]
    cases hk : (a == k) with
    | true =>
      have e : a = k := eq_of_beq hk
      rw [show (!(true) && !(a + 1 == k && v.category == 2)) = false from rfl]
      rw [if_neg (by decide), ih h4 hj]
      rw [show m_gl ((a, v) :: ls) j = (bif Nat.beq a j then some v else m_gl ls j) from rfl, e, hj]
      rfl
    | false =>
      rw [h5, Bool.and_false]
      rw [show (!(false) && !(false)) = true from rfl, if_pos rfl]
      rw [show m_gl ((a, v) :: ls) j = (bif Nat.beq a j then some v else m_gl ls j) from rfl, ← ih h4 hj]
      rfl
theorem lC1_filter {p : Nat × Value → Bool} : ∀ {ls : mL}, lC1 ls = true → lC1 (ls.filter p) = true := by
  intro ls h
  unfold lC1 at h ⊢
  rw [List.all_eq_true] at h ⊢
  exact fun q hq => h q (List.mem_filter.mp hq).1
theorem lS.sl {ls ls' : mL} {k : Nat} {x : Int32} (h : lS ls ls') : lS (m_sl ls k (.int x)) (m_sl ls' k (.int x)) := by
  refine ⟨fun i v hv => ?_, ?_, ?_⟩
  · have f : ∀ l : mL, m_gl (m_sl l k (.int x)) i = (bif Nat.beq k i then some (.int x) else m_gl (l.filter (fun q => !(q.1 == k) && !(q.1 + 1 == k && q.2.category == 2))) i) := fun l => rfl
    rw [f] at hv ⊢
    cases e : Nat.beq k i with
    | true => rw [e] at hv; exact hv
    | false =>
      rw [e, cond_false] at hv
      rw [cond_false]
      rw [gl_filter h.2.1 e] at hv
      rw [gl_filter h.2.2 e]
      exact h.1 i v hv
  · exact lC1_filter (ls := ls) h.2.1
  · exact lC1_filter (ls := ls') h.2.2
/-- a step's result with other locals -/
def pW (ls : mL) (r : Nat × mL × List Value × mS) : Nat × mL × List Value × mS := (r.1, ls, r.2.2)
theorem nat_2 {f : Int32 → Int32 → Int32} {nx : Nat} {ls : mL} {S : mS} {st : List Value} : m_2 f nx ls S st = (m_2 f nx [] S st).map (pW ls) := by
  unfold m_2
  split <;> rfl
theorem nat_gf {nx : Nat} {ls : mL} {S : mS} {ex : List Nat} {st : List Value} : m_gf nx ls S ex st = (m_gf nx [] S ex st).map (pW ls) := by
  unfold m_gf
  split
  · next c _ q _ a r => cases Nat.beq a c <;> rfl
  · next c _ _ g a r => cases Nat.beq a c <;> rfl
  · next c _ q _ a r => cases Nat.beq a c <;> rfl
  · next c _ _ _ a r => cases Nat.beq a c <;> rfl
  · rfl
theorem nat_pf {nx : Nat} {ls : mL} {S : mS} {ex : List Nat} {st : List Value} : m_pf nx ls S ex st = (m_pf nx [] S ex st).map (pW ls) := by
  unfold m_pf
  split
  · next c _ q _ x a r => cases Nat.beq a c <;> rfl
  · next c _ _ _ x a r => cases Nat.beq a c <;> rfl
  · rfl
/-- a step goes on with more locals as with fewer, or is a load that finds none -/
def pOK (e : mE) (st : List Value) (S : mS) : Prop := ∀ ls ls', lS ls ls' → (∃ r l, m_p e ls st S = some r ∧ m_p e ls' st S = some (pW l r) ∧ lS r.2.1 l) ∨ (m_p e ls st S = none ∧ (m_p e ls' st S = none ∨ m_br e st = none ∧ m_g e st S = none ∧ m_rv e st = none ∧ m_cr e st = none ∧ m_iv e st = none))
theorem pOK.of {e : mE} {st : List Value} {S : mS} (h : ∀ ls, m_p e ls st S = (m_p e [] st S).map (pW ls)) : pOK e st S := by
  intro ls ls' hs
  cases hr : m_p e [] st S with
  | none => exact Or.inr ⟨by rw [h, hr]; rfl, Or.inl (by rw [h, hr]; rfl)⟩
  | some r => exact Or.inl ⟨pW ls r, ls', by rw [h, hr]; rfl, by rw [h, hr]; rfl, hs⟩
theorem pOK.li {st : List Value} {S : mS} {e : mE} {nx k : Nat} (h : ∀ ls, m_p e ls st S = m_li nx ls st S (m_gl ls k)) (hn : m_br e st = none ∧ m_g e st S = none ∧ m_rv e st = none ∧ m_cr e st = none ∧ m_iv e st = none) : pOK e st S := by
  intro ls ls' hs
  rw [h, h]
  cases hg : m_gl ls k with
  | none => exact Or.inr ⟨rfl, Or.inr hn⟩
  | some v =>
    rw [hs.1 k v hg]
    cases v <;> first | exact Or.inl ⟨_, ls', rfl, rfl, hs⟩ | exact Or.inr ⟨rfl, Or.inl rfl⟩
theorem pOK.ll {st : List Value} {S : mS} {e : mE} {nx k : Nat} (h : ∀ ls, m_p e ls st S = m_ll nx ls st S (m_gl ls k)) (hn : m_br e st = none ∧ m_g e st S = none ∧ m_rv e st = none ∧ m_cr e st = none ∧ m_iv e st = none) : pOK e st S := by
  intro ls ls' hs
  rw [h, h]
  cases hg : m_gl ls k with
  | none => exact Or.inr ⟨rfl, Or.inr hn⟩
  | some v =>
    rw [hs.1 k v hg]
    cases v <;> first | exact Or.inl ⟨_, ls', rfl, rfl, hs⟩ | exact Or.inr ⟨rfl, Or.inl rfl⟩
theorem pOK.la {st : List Value} {S : mS} {e : mE} {nx k : Nat} (h : ∀ ls, m_p e ls st S = m_la nx ls st S (m_gl ls k)) (hn : m_br e st = none ∧ m_g e st S = none ∧ m_rv e st = none ∧ m_cr e st = none ∧ m_iv e st = none) : pOK e st S := by
  intro ls ls' hs
  rw [h, h]
  cases hg : m_gl ls k with
  | none => exact Or.inr ⟨rfl, Or.inr hn⟩
  | some v =>
    rw [hs.1 k v hg]
    cases v <;> first | exact Or.inl ⟨_, ls', rfl, rfl, hs⟩ | exact Or.inr ⟨rfl, Or.inl rfl⟩
theorem pOK.inc {st : List Value} {S : mS} {e : mE} {nx k : Nat} {c : Int32} (h : ∀ ls, m_p e ls st S = m_inc nx ls st S k c (m_gl ls k)) (hn : m_br e st = none ∧ m_g e st S = none ∧ m_rv e st = none ∧ m_cr e st = none ∧ m_iv e st = none) : pOK e st S := by
  intro ls ls' hs
  rw [h, h]
  cases hg : m_gl ls k with
  | none => exact Or.inr ⟨rfl, Or.inr hn⟩
  | some v =>
    rw [hs.1 k v hg]
    cases v <;> first | exact Or.inl ⟨_, _, rfl, rfl, hs.sl⟩ | exact Or.inr ⟨rfl, Or.inl rfl⟩
theorem pOK.st {st : List Value} {S : mS} {e : mE} {nx k : Nat} (h : ∀ ls, m_p e ls st S = m_st nx ls S k st) : pOK e st S := by
  intro ls ls' hs
  rw [h, h]
  unfold m_st
  split
  · exact Or.inl ⟨_, _, rfl, rfl, hs.sl⟩
  · exact Or.inr ⟨rfl, Or.inl rfl⟩
theorem p_ok (e : mE) (st : List Value) (S : mS) : pOK e st S := by
  obtain ⟨i, nx, ex, c, c2⟩ := e
  cases i with
  | iload k => exact pOK.li (fun _ => rfl) ⟨rfl, rfl, rfl, rfl, rfl⟩
  | iload_n k => exact pOK.li (fun _ => rfl) ⟨rfl, rfl, rfl, rfl, rfl⟩
  | lload k => exact pOK.ll (fun _ => rfl) ⟨rfl, rfl, rfl, rfl, rfl⟩
  | lload_n k => exact pOK.ll (fun _ => rfl) ⟨rfl, rfl, rfl, rfl, rfl⟩
  | aload_n k => exact pOK.la (fun _ => rfl) ⟨rfl, rfl, rfl, rfl, rfl⟩
  | istore k => exact pOK.st (fun _ => rfl)
  | istore_n k => exact pOK.st (fun _ => rfl)
  | iinc k x => exact pOK.inc (fun _ => rfl) ⟨rfl, rfl, rfl, rfl, rfl⟩
  | iadd => exact pOK.of (fun _ => nat_2)
  | isub => exact pOK.of (fun _ => nat_2)
  | imul => exact pOK.of (fun _ => nat_2)
  | iand => exact pOK.of (fun _ => nat_2)
  | ior => exact pOK.of (fun _ => nat_2)
  | ixor => exact pOK.of (fun _ => nat_2)
  | ishl => exact pOK.of (fun _ => nat_2)
  | ishr => exact pOK.of (fun _ => nat_2)
  | iushr => exact pOK.of (fun _ => nat_2)
  | goto o => exact pOK.of (fun ls => by unfold m_p; dsimp only; split <;> rfl)
  | dup => exact pOK.of (fun ls => by unfold m_p; dsimp only; split <;> rfl)
  | dup2 => exact pOK.of (fun ls => by unfold m_p; dsimp only; split <;> rfl)
  | i2l => exact pOK.of (fun ls => by unfold m_p; dsimp only; split <;> rfl)
  | l2i => exact pOK.of (fun ls => by unfold m_p; dsimp only; split <;> rfl)
  | lcmp => exact pOK.of (fun ls => by unfold m_p; dsimp only; split <;> rfl)
  | ladd => exact pOK.of (fun ls => by unfold m_p; dsimp only; split <;> rfl)
  | tableswitch a lo hi t => exact pOK.of (fun ls => by unfold m_p; dsimp only; split <;> rfl)
  | lookupswitch a ps => exact pOK.of (fun ls => by unfold m_p; dsimp only; split <;> rfl)
  | getstatic a => exact pOK.of (fun ls => by unfold m_p; dsimp only; split <;> rfl)
  | ldc a => exact pOK.of (fun ls => by unfold m_p; dsimp only; split <;> rfl)
  | getfield a => exact pOK.of (fun _ => nat_gf)
  | putfield a => exact pOK.of (fun _ => nat_pf)
  | _ => exact pOK.of (fun _ => rfl)
theorem Wp.sub {d M pc : Nat} {ls ls' : mL} {st : List Value} {S : mS} {Q : mQ} (h : Wp d M pc ls st S Q) (hs : lS ls ls') : Wp d M pc ls' st S Q := by
  have key := h (fun d M pc ls st S Q => Wp d M pc ls st S Q ∧ ∀ ls', lS ls ls' → Wp d M pc ls' st S Q) (fun d M pc ls st S Q Q' hq w => ⟨w.1.mono hq, fun ls' hs => (w.2 ls' hs).mono hq⟩) (fun d M pc ls st S Q hT => ⟨Wp.fold (hT.le (fun d M pc ls st S Q Q' hq w => w.mono hq) (fun _ _ _ _ _ _ _ w => w.1)), fun ls' hs => ?_⟩)
  · exact key.2 ls' hs
  · apply Wp.fold
    unfold m_T at hT ⊢
    cases hc : m_code M pc with
    | none => rw [hc] at hT; exact hT
    | some e =>
      rw [hc] at hT
      dsimp only at hT ⊢
      rcases p_ok e st S ls ls' hs with ⟨r, l, h1, h2, h3⟩ | ⟨h1, h2⟩
      · rw [h1] at hT
        rw [h2]
        exact hT.2 l h3
      · rw [h1] at hT
        dsimp only at hT
        rcases h2 with h2 | ⟨g1, g2, g3, g4, g5⟩
        · rw [h2]
          dsimp only
          cases hb : m_br e st with
          | some x =>
            rw [hb] at hT
            exact ⟨fun p => (hT.1 p).2 ls' hs, fun p => (hT.2 p).2 ls' hs⟩
          | none =>
            rw [hb] at hT
            dsimp only at hT ⊢
            cases hg : m_g e st S with
            | some x =>
              rw [hg] at hT
              exact ⟨hT.1, hT.2.2 ls' hs⟩
            | none =>
              rw [hg] at hT
              dsimp only at hT ⊢
              cases hv : m_rv e st with
              | some x => rw [hv] at hT; exact hT
              | none =>
                rw [hv] at hT
                dsimp only at hT ⊢
                cases hr : m_cr e st with
                | some x =>
                  rw [hr] at hT
                  exact ⟨hT.1, hT.2.1, hT.2.2.2 ls' hs⟩
                | none =>
                  rw [hr] at hT
                  dsimp only at hT ⊢
                  cases hi : m_iv e st with
                  | some x =>
                    rw [hi] at hT
                    exact ⟨hT.1, hT.2.1.mono (fun v S' q => q.2 ls' hs)⟩
                  | none => rw [hi] at hT; exact hT
        · rw [g1, g2, g3, g4, g5] at hT
          exact hT.elim
theorem lS.mk {ls ls' : mL} (h1 : lC1 ls = true) (h2 : lC1 ls' = true) (h : lSub ls ls') : lS ls ls' := ⟨h, h1, h2⟩
theorem t_sub {d : Nat} {S : mS} {Q : mQ} {x y : Int32} (h : Wp d n_X6_run 96 [(3, .int x), (5, .int y), (0, .ref 6)] [] S Q) : Wp d n_X6_run 96 [(5, .int y), (0, .ref 6), (7, .int 0), (3, .int x)] [] S Q := by
  refine h.sub (lS.mk rfl rfl ?_)
  repeat (first | exact lSub.nil | refine lSub.cons rfl ?_)
