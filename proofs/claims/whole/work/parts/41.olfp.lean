/-- what is told: the sets at the steps, the sets over all, the steps come to -/
abbrev oT : Type := (Nat → Int32) × (Nat → Int32) × (Nat → Bool)
def tR (T : oT) (s : Nat) : Nat → Int32 := fun v => if v < 6 then T.1 (6 * s + v) else 0
def tA (T : oT) : Nat → Int32 := fun w => if w < 3 then T.2.1 w else 0
def oLe (T U : oT) : Prop := (∀ q, q < 192 → le (T.1 q) (U.1 q)) ∧ (∀ w, w < 3 → le (T.2.1 w) (U.2.1 w)) ∧ ∀ s, s < 32 → T.2.2 s = true → U.2.2 s = true
theorem oLe.rf {T : oT} : oLe T T := ⟨fun _ _ => le.rf, fun _ _ => le.rf, fun _ _ h => h⟩
theorem oLe.tr {T U V : oT} (h : oLe T U) (h2 : oLe U V) : oLe T V := ⟨fun q hq => (h.1 q hq).tr (h2.1 q hq), fun w hw => (h.2.1 w hw).tr (h2.2.1 w hw), fun s hs e => h2.2.2 s hs (h.2.2 s hs e)⟩
theorem oLe.row {T U : oT} (h : oLe T U) {s : Nat} (hs : s < 32) : ∀ v, le (tR T s v) (tR U s v) := fun v => by
  unfold tR
  split
  · exact h.1 _ (by omega)
  · exact le.rf
theorem oLe.al {T U : oT} (h : oLe T U) : ∀ w, le (tA T w) (tA U w) := fun w => by
  unfold tA
  split
  · next c => exact h.2.1 w c
  · exact le.rf
/-- a program: how many steps, codes, as, bs, cs, handlers -/
abbrev oP : Type := Nat × (Nat → Int32) × (Nat → Int32) × (Nat → Int32) × (Nat → Int32) × (Nat → Int32)
abbrev oPW (P : oP) : Prop := PW P.1 P.2.1 P.2.2.1 P.2.2.2.1 P.2.2.2.2.1 P.2.2.2.2.2
abbrev oEg (P : oP) (T : oT) (s : Nat) : List oE := egF (tn (P.2.1 s)) (nI (s + 1)) (P.2.2.1 s) (P.2.2.2.1 s) (P.2.2.2.2.1 s) (tA T) (tR T s)
abbrev oAd (P : oP) (T : oT) (s : Nat) : List (Nat × Int32) := adS (tn (P.2.1 s)) (P.2.2.1 s) (P.2.2.2.1 s) (tA T) (tR T s)
abbrev oFt (P : oP) (T : oT) (s : Nat) : Int32 := ftF (tn (P.2.1 s)) (P.2.2.1 s) (P.2.2.2.1 s) (tA T) (tR T s)
def oIn (T : oT) (to : Nat) (t : Nat → Int32) : Prop := T.2.2 to = true ∧ ∀ v, v < 6 → le (t v) (T.1 (6 * to + v))
/-- what follows of a step is there -/
def Cons (P : oP) (T : oT) (s : Nat) : Prop := (∀ e ∈ oEg P T s, e.1 < nI P.1 → (∀ v, v < 6 → ¬ e.2 v = 0) → oIn T (tn e.1) e.2) ∧ (∀ p ∈ oAd P T s, le p.2 (T.2.1 p.1)) ∧ (0 ≤ P.2.2.2.2.2 s → P.2.2.2.2.2 s < nI P.1 → ¬ oFt P T s = 0 → oIn T (tn (P.2.2.2.2.2 s)) (tR T s))
def Clo (P : oP) (T : oT) : Prop := ∀ s, s < P.1 → T.2.2 s = true → Cons P T s
def oB (P : oP) (T : oT) : Prop := (0 < P.1 → T.2.2 0 = true ∧ ∀ v, v < 6 → le 1 (T.1 v)) ∧ ∀ w, w < 3 → le 1 (T.2.1 w)
/-- below everything that holds together -/
def Bel (P : oP) (T : oT) : Prop := ∀ U, Clo P U → oB P U → oLe T U
def BE (P : oP) (to : Nat) (t : Nat → Int32) : Prop := ∀ U, Clo P U → oB P U → oIn U to t
def BA (P : oP) (w : Nat) (x : Int32) : Prop := ∀ U, Clo P U → oB P U → le x (U.2.1 w)
theorem oIn.le {U : oT} {to : Nat} {t t' : Nat → Int32} (h : oIn U to t) (h2 : ∀ v, v < 6 → le (t' v) (t v)) : oIn U to t' := ⟨h.1, fun v hv => (h2 v hv).tr (h.2 v hv)⟩
theorem oIn.up {T U : oT} {to : Nat} {t : Nat → Int32} (h : oIn T to t) (hle : oLe T U) (ht : to < 32) : oIn U to t := ⟨hle.2.2 to ht h.1, fun v hv => (h.2 v hv).tr (hle.1 _ (by omega))⟩
theorem Bel.e {P : oP} {T : oT} {s : Nat} (h : Bel P T) (hn : P.1 ≤ 32) (hs : s < P.1) (hc : T.2.2 s = true) {e : oE} (he : e ∈ oEg P T s) (h1 : e.1 < nI P.1) (h2 : ∀ v, v < 6 → ¬ e.2 v = 0) : BE P (tn e.1) e.2 := by
  intro U hU hB
  have hle := h U hU hB
  obtain ⟨e', he', e1, e2⟩ := eg_mono (hle.row (s := s) (by omega)) hle.al e he
  have := (hU s hs (hle.2.2 s (by omega) hc)).1 e' he' (by rw [e1]; exact h1) (fun v hv => (e2 v).ne (h2 v hv))
  rw [e1] at this
  exact this.le (fun v _ => e2 v)
theorem Bel.a {P : oP} {T : oT} {s : Nat} (h : Bel P T) (hn : P.1 ≤ 32) (hs : s < P.1) (hc : T.2.2 s = true) {p : Nat × Int32} (hp : p ∈ oAd P T s) : BA P p.1 p.2 := by
  intro U hU hB
  have hle := h U hU hB
  obtain ⟨p', hp', e1, e2⟩ := ad_mono (hle.row (s := s) (by omega)) hle.al p hp
  have := (hU s hs (hle.2.2 s (by omega) hc)).2.1 p' hp'
  rw [e1] at this
  exact e2.tr this
theorem Bel.h {P : oP} {T : oT} {s : Nat} (h : Bel P T) (hn : P.1 ≤ 32) (hs : s < P.1) (hc : T.2.2 s = true) (h1 : 0 ≤ P.2.2.2.2.2 s) (h2 : P.2.2.2.2.2 s < nI P.1) (h3 : ¬ oFt P T s = 0) : BE P (tn (P.2.2.2.2.2 s)) (tR T s) := by
  intro U hU hB
  have hle := h U hU hB
  exact ((hU s hs (hle.2.2 s (by omega) hc)).2.2 h1 h2 (ft_mono (hle.row (by omega)) h3)).le (fun v _ => hle.row (by omega) v)
theorem Bel.jn {P : oP} {T T' : oT} {to : Nat} {t : Nat → Int32} (h : Bel P T) (hb : BE P to t) (hq : ∀ q, q < 192 → T'.1 q = T.1 q ∨ ∃ v, v < 6 ∧ q = 6 * to + v ∧ T'.1 q = T.1 q ||| t v) (ha : ∀ w, w < 3 → T'.2.1 w = T.2.1 w) (hc : ∀ s, s < 32 → T'.2.2 s = true → T.2.2 s = true ∨ s = to) : Bel P T' := by
  intro U hU hB
  have hle := h U hU hB
  have hin := hb U hU hB
  refine ⟨fun q hq' => ?_, fun w hw => by rw [ha w hw]; exact hle.2.1 w hw, fun s hs e => ?_⟩
  · rcases hq q hq' with e | ⟨v, hv, e1, e2⟩
    · rw [e]; exact hle.1 q hq'
    · rw [e2]
      exact (hle.1 q hq').lub (by rw [e1]; exact hin.2 v hv)
  · rcases hc s hs e with z | z
    · exact hle.2.2 s hs z
    · rw [z]; exact hin.1
theorem Bel.ad {P : oP} {T T' : oT} {w : Nat} {x : Int32} (h : Bel P T) (hb : BA P w x) (hq : ∀ q, q < 192 → T'.1 q = T.1 q) (ha : ∀ i, i < 3 → T'.2.1 i = T.2.1 i ∨ i = w ∧ T'.2.1 i = T.2.1 i ||| x) (hc : ∀ s, s < 32 → T'.2.2 s = true → T.2.2 s = true) : Bel P T' := by
  intro U hU hB
  have hle := h U hU hB
  refine ⟨fun q hq' => by rw [hq q hq']; exact hle.1 q hq', fun i hi => ?_, fun s hs e => hle.2.2 s hs (hc s hs e)⟩
  rcases ha i hi with e | ⟨e1, e2⟩
  · rw [e]; exact hle.2.1 i hi
  · rw [e2]
    exact (hle.2.1 i hi).lub (by rw [e1]; exact hb U hU hB)
-- a top that holds together
def oTop : oT := (fun _ => 1023, fun w => if w = 0 then 1023 else if w = 1 then 31 else 25, fun _ => true)
theorem upd_rg {r : Nat → Int32} {i : Nat} {x : Int32} (h : ∀ v, le (r v) 1023) (hx : le x 1023) : ∀ v, le (upd r i x v) 1023 := fun v => by
  by_cases e : v = i
  · rw [show upd r i x v = x from if_pos e]; exact hx
  · rw [show upd r i x v = r v from if_neg e]; exact h v
theorem le_c {x y : Int32} (h : x ||| y = y) : le x y := le_or.mpr h
theorem only_rg : ∀ t, t < 10 → 1 <<< (nI t &&& 31) ||| (1023 : Int32) = 1023 := by decide
theorem only_rg2 {b : Int32} {lo hi : Int32} {l h : Nat} (hl : lo = nI l) (hh : hi = nI h) (h9 : h ≤ 9) (hl9 : l ≤ 9) (hb : lo ≤ b ∧ b ≤ hi) : le (1 <<< (b &&& 31)) 1023 := by
  obtain ⟨t, -, t2, rfl⟩ := of_rng hl hh (by omega) (by omega) hb.1 hb.2
  exact le_c (only_rg t (by omega))
theorem eg_one {P : oE → Prop} {e0 : oE} (h : P e0) : ∀ e ∈ [e0], P e := fun e he => by rw [List.mem_singleton] at he; rw [he]; exact h
theorem eg_two {P : oE → Prop} {e0 e1 : oE} (h : P e0) (h1 : P e1) : ∀ e ∈ [e0, e1], P e := fun e he => by
  rw [List.mem_cons, List.mem_singleton] at he
  rcases he with z | z
  · rw [z]; exact h
  · rw [z]; exact h1
theorem eg_rng {k : Nat} {nx a b c : Int32} {al r : Nat → Int32} (hw : wS k a b c) (h : ∀ v, le (r v) 1023) (ha : ∀ w, le (al w) 1023) : ∀ e ∈ egF k nx a b c al r, ∀ v, le (e.2 v) 1023 := by
  have ra : ∀ {x y : Int32}, le x 1023 → le (x &&& y) 1023 := fun z => le.andl.tr z
  unfold egF
  split
  · exact eg_one (P := fun e => ∀ v, le (e.2 v) 1023) (upd_rg h (le_c (by decide)))
  · exact eg_one (P := fun e => ∀ v, le (e.2 v) 1023) (upd_rg h (only_rg2 (l := 1) (h := 4) rfl rfl (by omega) (by omega) (hw.2.2.1.2.2.1 rfl)))
  · exact eg_one (P := fun e => ∀ v, le (e.2 v) 1023) (upd_rg h (only_rg2 (l := 5) (h := 9) rfl rfl (by omega) (by omega) (hw.2.2.1.2.2.2.1 rfl)))
  · exact eg_one (P := fun e => ∀ v, le (e.2 v) 1023) (upd_rg h (h _))
  · exact eg_two (P := fun e => ∀ v, le (e.2 v) 1023) (upd_rg h (ra (h _))) (upd_rg h (ra (h _)))
  · exact eg_two (P := fun e => ∀ v, le (e.2 v) 1023) (upd_rg h (ra (h _))) (upd_rg h (ra (h _)))
  · exact eg_one (P := fun e => ∀ v, le (e.2 v) 1023) (upd_rg (upd_rg h (ra (h _))) (ra (h _)))
  · intro e he
    split at he
    · exact eg_one (P := fun e => ∀ v, le (e.2 v) 1023) (upd_rg (upd_rg h (ra (h _))) (ha 0)) e he
    · cases he
  · exact eg_one (P := fun e => ∀ v, le (e.2 v) 1023) (upd_rg h (ra (h _)))
  · intro e he
    split at he
    · refine eg_one (P := fun e => ∀ v, le (e.2 v) 1023) (upd_rg (upd_rg h (ra (h _))) ?_) e he
      refine le.lub ?_ ?_
      · split
        · exact ha 1
        · exact le.zero
      · split
        · exact ha 2
        · exact le.zero
    · cases he
  · exact eg_one (P := fun e => ∀ v, le (e.2 v) 1023) (upd_rg (upd_rg h (ra (h _))) (ra (upd_rg h (ra (h _)) _)))
  · exact eg_one (P := fun e => ∀ v, le (e.2 v) 1023) (upd_rg h (ra (h _)))
  · exact eg_one (P := fun e => ∀ v, le (e.2 v) 1023) (upd_rg h (ra (h _)))
  · exact eg_one (P := fun e => ∀ v, le (e.2 v) 1023) (upd_rg h (ra (h _)))
  · exact eg_one (P := fun e => ∀ v, le (e.2 v) 1023) (upd_rg h (ra (h _)))
  · exact eg_one (P := fun e => ∀ v, le (e.2 v) 1023) (upd_rg h (ra (h _)))
  · exact eg_two (P := fun e => ∀ v, le (e.2 v) 1023) h h
  · exact eg_one (P := fun e => ∀ v, le (e.2 v) 1023) h
  · intro e he; cases he
  · exact eg_one (P := fun e => ∀ v, le (e.2 v) 1023) (upd_rg (upd_rg h (ra (h _))) (ra (upd_rg h (ra (h _)) _)))
  · intro e he; cases he
  · exact eg_one (P := fun e => ∀ v, le (e.2 v) 1023) h
theorem tR_rg {T : oT} {s : Nat} (h : ∀ q, q < 192 → le (T.1 q) 1023) (hs : s < 32) : ∀ v, le (tR T s v) 1023 := fun v => by
  unfold tR
  split
  · exact h _ (by omega)
  · exact le.zero
theorem tA_rg {T : oT} (h0 : le (T.2.1 0) 1023) (h1 : le (T.2.1 1) 31) (h2 : le (T.2.1 2) 25) : ∀ w, le (tA T w) 1023 := fun w => by
  unfold tA
  split
  · next c =>
    match w, c with
    | 0, _ => exact h0
    | 1, _ => exact h1.tr (le_c (by decide))
    | 2, _ => exact h2.tr (le_c (by decide))
  · exact le.zero
theorem ite0_rg {p : Prop} [Decidable p] {x y : Int32} (h : le x y) : le (if p then x else 0) y := by
  split
  · exact h
  · exact le.zero
theorem oTop_clo {P : oP} (hP : oPW P) : Clo P oTop := by
  intro s hs _
  have hn := hP.1
  obtain ⟨⟨k, hk, hw⟩, -⟩ := hP.2 s hs
  have hk24 := hw.1
  have tk : tn (P.2.1 s) = k := by rw [hk]; exact tn_nI (by omega)
  have hr : ∀ v, le (tR oTop s v) 1023 := tR_rg (fun _ _ => le.rf) (by omega)
  have ha : ∀ w, le (tA oTop w) 1023 := tA_rg le.rf le.rf le.rf
  refine ⟨fun e he h1 h2 => ⟨rfl, fun v _ => ?_⟩, fun p hp => ?_, fun _ _ _ => ⟨rfl, fun v _ => hr v⟩⟩
  · unfold oEg at he
    rw [tk] at he
    exact eg_rng hw hr ha e he v
  · unfold oAd adS at hp
    split at hp
    · split at hp
      · rw [List.mem_singleton] at hp
        subst hp
        exact hr _
      · cases hp
    · rw [List.mem_cons, List.mem_singleton] at hp
      rcases hp with rfl | rfl
      · exact ite0_rg le.andr
      · exact ite0_rg le.andr
    · rw [List.mem_cons, List.mem_singleton] at hp
      rcases hp with rfl | rfl
      · exact ite0_rg le.andr
      · exact ite0_rg le.andr
    · cases hp
theorem oTop_b {P : oP} : oB P oTop := ⟨fun _ => ⟨rfl, fun _ _ => (le_c (by decide) : le 1 1023)⟩, fun w hw => by
  match w, hw with
  | 0, _ => exact le_c (by decide)
  | 1, _ => exact le_c (by decide)
  | 2, _ => exact le_c (by decide)⟩
theorem Bel.rg {P : oP} {T : oT} (h : Bel P T) (hP : oPW P) : (∀ q, q < 192 → le (T.1 q) 1023) ∧ le (T.2.1 0) 1023 ∧ le (T.2.1 1) 31 ∧ le (T.2.1 2) 25 := by
  have := h oTop (oTop_clo hP) oTop_b
  exact ⟨this.1, this.2.1 0 (by omega), this.2.1 1 (by omega), this.2.1 2 (by omega)⟩
/-- two least ones are one -/
theorem lfp_eq {P : oP} {T U : oT} (h : Bel P T) (h1 : Clo P T) (h2 : oB P T) (g : Bel P U) (g1 : Clo P U) (g2 : oB P U) : (∀ q, q < 192 → T.1 q = U.1 q) ∧ (∀ w, w < 3 → T.2.1 w = U.2.1 w) ∧ ∀ s, s < 32 → T.2.2 s = U.2.2 s := by
  have a := h U g1 g2
  have b := g T h1 h2
  refine ⟨fun q hq => (a.1 q hq).eq (b.1 q hq), fun w hw => (a.2.1 w hw).eq (b.2.1 w hw), fun s hs => ?_⟩
  cases e : T.2.2 s with
  | true => exact (a.2.2 s hs e).symm
  | false =>
    cases e2 : U.2.2 s with
    | false => rfl
    | true => rw [b.2.2 s hs e2] at e; cases e
-- counting
def pcN (x : Int32) : Nat → Nat
  | 0 => 0
  | k + 1 => pcN x k + (if hb x k = true then 1 else 0)
def smN (f : Nat → Nat) : Nat → Nat
  | 0 => 0
  | k + 1 => smN f k + f k
theorem pcN_b {x : Int32} : ∀ k, pcN x k ≤ k := by
  intro k
  induction k with
  | zero => exact Nat.le_refl _
  | succ k ih => unfold pcN; split <;> omega
theorem pcN_le {x y : Int32} (h : le x y) : ∀ k, pcN x k ≤ pcN y k := by
  intro k
  induction k with
  | zero => exact Nat.le_refl _
  | succ k ih =>
    unfold pcN
    by_cases c : hb x k = true
    · rw [if_pos c, if_pos (h k c)]; omega
    · rw [if_neg c]; omega
theorem pcN_lt {x y : Int32} (h : le x y) : ∀ k j, j < k → hb y j = true → ¬ hb x j = true → pcN x k < pcN y k := by
  intro k
  induction k with
  | zero => intro j hj; omega
  | succ k ih =>
    intro j hj hy hx
    unfold pcN
    by_cases e : j = k
    · subst e
      rw [if_neg hx, if_pos hy]
      have := pcN_le h j
      omega
    · have := ih j (by omega) hy hx
      by_cases c : hb x k = true
      · rw [if_pos c, if_pos (h k c)]; omega
      · rw [if_neg c]; omega
theorem smN_le {f g : Nat → Nat} : ∀ {n : Nat}, (∀ i, i < n → f i ≤ g i) → smN f n ≤ smN g n := by
  intro n
  induction n with
  | zero => intro _; exact Nat.le_refl _
  | succ n ih =>
    intro h
    have := ih (fun i hi => h i (by omega))
    have := h n (by omega)
    unfold smN
    omega
theorem smN_lt {f g : Nat → Nat} : ∀ {n i : Nat}, (∀ i, i < n → f i ≤ g i) → i < n → f i < g i → smN f n < smN g n := by
  intro n
  induction n with
  | zero => intro i _ hi; omega
  | succ n ih =>
    intro i h hi hl
    unfold smN
    by_cases e : i = n
    · subst e
      have := smN_le (n := i) (fun j hj => h j (by omega))
      omega
    · have := ih (i := i) (fun j hj => h j (by omega)) (by omega) hl
      have := h n (by omega)
      omega
theorem smN_b {f : Nat → Nat} {b : Nat} : ∀ {n : Nat}, (∀ i, i < n → f i ≤ b) → smN f n ≤ b * n := by
  intro n
  induction n with
  | zero => intro _; exact Nat.le_refl _
  | succ n ih =>
    intro h
    have h1 := ih (fun i hi => h i (by omega))
    have h2 := h n (by omega)
    unfold smN
    rw [Nat.mul_succ]
    omega
def muT (T : oT) : Nat := smN (fun q => pcN (T.1 q) 10) 192 + smN (fun w => pcN (T.2.1 w) 10) 3
theorem muT_b (T : oT) : muT T ≤ 1950 := by
  have h1 := smN_b (f := fun q => pcN (T.1 q) 10) (b := 10) (n := 192) (fun i _ => pcN_b 10)
  have h2 := smN_b (f := fun w => pcN (T.2.1 w) 10) (b := 10) (n := 3) (fun i _ => pcN_b 10)
  unfold muT
  omega
def oGt (T T' : oT) : Prop := (∃ q, q < 192 ∧ ¬ le (T'.1 q) (T.1 q)) ∨ ∃ w, w < 3 ∧ ¬ le (T'.2.1 w) (T.2.1 w)
theorem nle_bit {x y : Int32} (h : ¬ le x y) : ∃ j, hb x j = true ∧ ¬ hb y j = true := by
  by_cases c : ∃ j, hb x j = true ∧ ¬ hb y j = true
  · exact c
  · exact absurd (fun k e => Decidable.not_not.mp (fun z => c ⟨k, e, z⟩)) h
theorem hb1023 : ∀ k, k < 32 → hb 1023 k = true → k < 10 := by decide
theorem muT_le {T T' : oT} (h : oLe T T') : muT T ≤ muT T' := Nat.add_le_add (smN_le (fun i hi => pcN_le (h.1 i hi) 10)) (smN_le (fun i hi => pcN_le (h.2.1 i hi) 10))
theorem lt10 {x : Int32} {j : Nat} (h : le x 1023) (e : hb x j = true) : j < 10 := by
  rcases Nat.lt_or_ge j 32 with z | z
  · exact hb1023 j z (h j e)
  · rw [hb_ge z] at e; cases e
theorem muT_lt {P : oP} {T T' : oT} (h : oLe T T') (g : oGt T T') (hB : Bel P T') (hP : oPW P) : muT T < muT T' := by
  obtain ⟨r1, r2, r3, r4⟩ := hB.rg hP
  unfold muT
  have b1 := smN_le (n := 192) (fun i hi => pcN_le (h.1 i hi) 10)
  have b2 := smN_le (n := 3) (fun i hi => pcN_le (h.2.1 i hi) 10)
  rcases g with ⟨q, hq, hn⟩ | ⟨w, hw, hn⟩
  · obtain ⟨j, e1, e2⟩ := nle_bit hn
    have := smN_lt (n := 192) (i := q) (fun i hi => pcN_le (h.1 i hi) 10) hq (pcN_lt (h.1 q hq) 10 j (lt10 (r1 q hq) e1) e1 e2)
    omega
  · obtain ⟨j, e1, e2⟩ := nle_bit hn
    have rw1 : le (T'.2.1 w) 1023 := by
      match w, hw with
      | 0, _ => exact r2
      | 1, _ => exact r3.tr (le_c (by decide))
      | 2, _ => exact r4.tr (le_c (by decide))
    have := smN_lt (n := 3) (i := w) (fun i hi => pcN_le (h.2.1 i hi) 10) hw (pcN_lt (h.2.1 w hw) 10 j (lt10 rw1 e1) e1 e2)
    omega
theorem oGt.l {T U V : oT} (h : oGt T U) (h2 : oLe U V) : oGt T V := by
  rcases h with ⟨q, hq, hn⟩ | ⟨w, hw, hn⟩
  · exact Or.inl ⟨q, hq, fun z => hn ((h2.1 q hq).tr z)⟩
  · exact Or.inr ⟨w, hw, fun z => hn ((h2.2.1 w hw).tr z)⟩
theorem oGt.r {T U V : oT} (h : oLe T U) (h2 : oGt U V) : oGt T V := by
  rcases h2 with ⟨q, hq, hn⟩ | ⟨w, hw, hn⟩
  · exact Or.inl ⟨q, hq, fun z => hn (z.tr (h.1 q hq))⟩
  · exact Or.inr ⟨w, hw, fun z => hn (z.tr (h.2.1 w hw))⟩
theorem eg_tg {k s : Nat} {a b c : Int32} {al r : Nat → Int32} (hw : wS k a b c) (hs : s < 32) : ∀ e ∈ egF k (nI (s + 1)) a b c al r, ∃ j, j ≤ 32 ∧ e.1 = nI j := by
  have d0 : ∃ j, j ≤ 32 ∧ nI (s + 1) = nI j := ⟨s + 1, by omega, rfl⟩
  unfold egF
  split
  · exact eg_one (P := fun e => ∃ j, j ≤ 32 ∧ e.1 = nI j) d0
  · exact eg_one (P := fun e => ∃ j, j ≤ 32 ∧ e.1 = nI j) d0
  · exact eg_one (P := fun e => ∃ j, j ≤ 32 ∧ e.1 = nI j) d0
  · exact eg_one (P := fun e => ∃ j, j ≤ 32 ∧ e.1 = nI j) d0
  · exact eg_two (P := fun e => ∃ j, j ≤ 32 ∧ e.1 = nI j) (fit_S rfl hw.2.2.2) d0
  · exact eg_two (P := fun e => ∃ j, j ≤ 32 ∧ e.1 = nI j) (fit_S rfl hw.2.2.2) d0
  · exact eg_one (P := fun e => ∃ j, j ≤ 32 ∧ e.1 = nI j) d0
  · intro e he
    split at he
    · exact eg_one (P := fun e => ∃ j, j ≤ 32 ∧ e.1 = nI j) d0 e he
    · cases he
  · exact eg_one (P := fun e => ∃ j, j ≤ 32 ∧ e.1 = nI j) d0
  · intro e he
    split at he
    · exact eg_one (P := fun e => ∃ j, j ≤ 32 ∧ e.1 = nI j) d0 e he
    · cases he
  · exact eg_one (P := fun e => ∃ j, j ≤ 32 ∧ e.1 = nI j) d0
  · exact eg_one (P := fun e => ∃ j, j ≤ 32 ∧ e.1 = nI j) d0
  · exact eg_one (P := fun e => ∃ j, j ≤ 32 ∧ e.1 = nI j) d0
  · exact eg_one (P := fun e => ∃ j, j ≤ 32 ∧ e.1 = nI j) d0
  · exact eg_one (P := fun e => ∃ j, j ≤ 32 ∧ e.1 = nI j) d0
  · exact eg_one (P := fun e => ∃ j, j ≤ 32 ∧ e.1 = nI j) d0
  · exact eg_two (P := fun e => ∃ j, j ≤ 32 ∧ e.1 = nI j) (fit_S rfl hw.2.2.2) d0
  · exact eg_one (P := fun e => ∃ j, j ≤ 32 ∧ e.1 = nI j) (fit_S rfl hw.2.1)
  · intro e he; cases he
  · exact eg_one (P := fun e => ∃ j, j ≤ 32 ∧ e.1 = nI j) d0
  · intro e he; cases he
  · exact eg_one (P := fun e => ∃ j, j ≤ 32 ∧ e.1 = nI j) d0
theorem oEg_tg {P : oP} {T : oT} {s : Nat} (hP : oPW P) (hs : s < P.1) : ∀ e ∈ oEg P T s, e.1 < nI P.1 → 0 ≤ e.1 ∧ tn e.1 < P.1 := by
  intro e he h1
  have hn := hP.1
  obtain ⟨⟨k, hk, hw⟩, -⟩ := hP.2 s hs
  have hk24 := hw.1
  have tk : tn (P.2.1 s) = k := by rw [hk]; exact tn_nI (by omega)
  unfold oEg at he
  rw [tk] at he
  obtain ⟨j, hj, ej⟩ := eg_tg hw (by omega) e he
  rw [ej] at h1 ⊢
  rw [tn_nI (by omega)]
  exact ⟨nI_pos' (by omega), (nI_ltI (by omega) (by omega)).mp h1⟩
theorem oAd_tg {P : oP} {T : oT} {s : Nat} : ∀ p ∈ oAd P T s, p.1 < 3 := by
  intro p hp
  unfold oAd adS at hp
  split at hp
  · split at hp
    · rw [List.mem_singleton] at hp; subst hp; exact (by decide : 0 < 3)
    · cases hp
  · rw [List.mem_cons, List.mem_singleton] at hp
    rcases hp with rfl | rfl
    · exact (by decide : 1 < 3)
    · exact (by decide : 2 < 3)
  · rw [List.mem_cons, List.mem_singleton] at hp
    rcases hp with rfl | rfl
    · exact (by decide : 2 < 3)
    · exact (by decide : 1 < 3)
  · cases hp
theorem Cons.up {P : oP} {T U : oT} {s : Nat} (hP : oPW P) (hs : s < P.1) (h : Cons P T s) (hr : ∀ v, v < 6 → U.1 (6 * s + v) = T.1 (6 * s + v)) (ha : ∀ w, w < 3 → U.2.1 w = T.2.1 w) (hle : oLe T U) : Cons P U s := by
  have er : tR U s = tR T s := by
    funext v
    unfold tR
    split
    · next c => exact hr v c
    · rfl
  have ea : tA U = tA T := by
    funext w
    unfold tA
    split
    · next c => exact ha w c
    · rfl
  have hn := hP.1
  unfold Cons oEg oAd oFt
  rw [er, ea]
  refine ⟨fun e he h1 h2 => (h.1 e he h1 h2).up hle (by have := (oEg_tg hP hs e he h1).2; omega), fun p hp => (h.2.1 p hp).tr (hle.2.1 _ (oAd_tg p hp)), fun h1 h2 h3 => (h.2.2 h1 h2 h3).up hle ?_⟩
  obtain ⟨i, hi0, e⟩ := nI_of (Int32.not_lt.mpr h1)
  rw [e] at h2 ⊢
  have := (nI_ltI hi0 (by omega)).mp h2
  rw [tn_nI hi0]
  omega
