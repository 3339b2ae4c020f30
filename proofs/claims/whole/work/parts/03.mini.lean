/-- the mini machine's heap: int and boolean fields by their place, the one long, the arrays by their mini address -/
abbrev mS : Type := (Nat → Int32) × Int64 × (Nat → Nat → Int32)
abbrev mL : Type := List (Nat × Value)
abbrev mQ : Type := Option Value → mS → Prop
def m_gl : mL → Nat → Option Value
  | [], _ => none
  | (j, v) :: l, i => bif Nat.beq j i then some v else m_gl l i
def m_sl (ls : mL) (i : Nat) (v : Value) : mL := (i, v) :: ls.filter (fun q => !(q.1 == i) && !(q.1 + 1 == i && q.2.category == 2))
def m_ts (ex : List Nat) (lo hi : Int) (x : Int32) : Nat := if x.toInt < lo ∨ hi < x.toInt then ex.getD 0 0 else ex.getD ((x.toInt - lo).toNat + 1) 0
def m_lkF (d : Nat) : List (Int × Int) → List Nat → Int → Nat
  | (a, _) :: ps, t :: ts, v => if a = v then t else m_lkF d ps ts v
  | _, _, _ => d
def m_2 (f : Int32 → Int32 → Int32) (nx : Nat) (ls : mL) (S : mS) : List Value → Option (Nat × mL × List Value × mS)
  | .int y :: .int x :: r => some (nx, ls, .int (f x y) :: r, S)
  | _ => none
def m_li (nx : Nat) (ls : mL) (st : List Value) (S : mS) : Option Value → Option (Nat × mL × List Value × mS)
  | some (.int x) => some (nx, ls, .int x :: st, S)
  | _ => none
def m_ll (nx : Nat) (ls : mL) (st : List Value) (S : mS) : Option Value → Option (Nat × mL × List Value × mS)
  | some (.long x) => some (nx, ls, .long x :: st, S)
  | _ => none
def m_la (nx : Nat) (ls : mL) (st : List Value) (S : mS) : Option Value → Option (Nat × mL × List Value × mS)
  | some (.ref x) => some (nx, ls, .ref x :: st, S)
  | _ => none
def m_st (nx : Nat) (ls : mL) (S : mS) (k : Nat) : List Value → Option (Nat × mL × List Value × mS)
  | .int x :: r => some (nx, m_sl ls k (.int x), r, S)
  | _ => none
def m_inc (nx : Nat) (ls : mL) (st : List Value) (S : mS) (k : Nat) (c : Int32) : Option Value → Option (Nat × mL × List Value × mS)
  | some (.int x) => some (nx, m_sl ls k (.int (x + c)), st, S)
  | _ => none
def m_gf (nx : Nat) (ls : mL) (S : mS) : List Nat → List Value → Option (Nat × mL × List Value × mS)
  | [c, _, q, 0, _], .ref a :: r => bif Nat.beq a c then some (nx, ls, .int (S.1 q) :: r, S) else none
  | [c, _, _, 1, g], .ref a :: r => bif Nat.beq a c then some (nx, ls, .ref g :: r, S) else none
  | [c, _, q, 2, _], .ref a :: r => bif Nat.beq a c then some (nx, ls, .int (S.1 q) :: r, S) else none
  | [c, _, _, 3, _], .ref a :: r => bif Nat.beq a c then some (nx, ls, .long S.2.1 :: r, S) else none
  | _, _ => none
def m_pf (nx : Nat) (ls : mL) (S : mS) : List Nat → List Value → Option (Nat × mL × List Value × mS)
  | [c, _, q, 0, _], .int x :: .ref a :: r => bif Nat.beq a c then some (nx, ls, r, (upd S.1 q x, S.2)) else none
  | [c, _, _, 3, _], .long x :: .ref a :: r => bif Nat.beq a c then some (nx, ls, r, (S.1, x, S.2.2)) else none
  | _, _ => none
/-- the steps that always go on, to one place -/
def m_p (e : mE) (ls : mL) (st : List Value) (S : mS) : Option (Nat × mL × List Value × mS) :=
  match e with
  | (i, nx, ex, c, c2) => match i with
    | .iconst _ => some (nx, ls, .int c :: st, S)
    | .bipush _ => some (nx, ls, .int c :: st, S)
    | .sipush _ => some (nx, ls, .int c :: st, S)
    | .lconst _ => some (nx, ls, .long c2 :: st, S)
    | .ldc2_w _ => some (nx, ls, .long c2 :: st, S)
    | .iload k => m_li nx ls st S (m_gl ls k)
    | .iload_n k => m_li nx ls st S (m_gl ls k.val)
    | .lload k => m_ll nx ls st S (m_gl ls k)
    | .lload_n k => m_ll nx ls st S (m_gl ls k.val)
    | .aload_n k => m_la nx ls st S (m_gl ls k.val)
    | .istore k => m_st nx ls S k st
    | .istore_n k => m_st nx ls S k.val st
    | .iinc k _ => m_inc nx ls st S k c (m_gl ls k)
    | .iadd => m_2 (fun x y => x + y) nx ls S st
    | .isub => m_2 (fun x y => x - y) nx ls S st
    | .imul => m_2 (fun x y => x * y) nx ls S st
    | .iand => m_2 (fun x y => x &&& y) nx ls S st
    | .ior => m_2 (fun x y => x ||| y) nx ls S st
    | .ixor => m_2 (fun x y => x ^^^ y) nx ls S st
    | .ishl => m_2 (fun x y => x <<< (y &&& 31)) nx ls S st
    | .ishr => m_2 (fun x y => x >>> (y &&& 31)) nx ls S st
    | .iushr => m_2 (fun x y => (x.toUInt32 >>> (y.toUInt32 &&& Int32.toUInt32 31)).toInt32) nx ls S st
    | .goto _ => match ex with
      | [t] => some (t, ls, st, S)
      | _ => none
    | .dup => match st with
      | .int x :: r => some (nx, ls, .int x :: .int x :: r, S)
      | .ref x :: r => some (nx, ls, .ref x :: .ref x :: r, S)
      | _ => none
    | .dup2 => match st with
      | .int x :: .ref a :: r => some (nx, ls, .int x :: .ref a :: .int x :: .ref a :: r, S)
      | _ => none
    | .i2l => match st with
      | .int x :: r => some (nx, ls, .long x.toInt64 :: r, S)
      | _ => none
    | .l2i => match st with
      | .long x :: r => some (nx, ls, .int x.toInt32 :: r, S)
      | _ => none
    | .lcmp => match st with
      | .long y :: .long x :: r => some (nx, ls, .int (lg_cmp x y) :: r, S)
      | _ => none
    | .ladd => match st with
      | .long y :: .long x :: r => some (nx, ls, .long (x + y) :: r, S)
      | _ => none
    | .tableswitch _ lo hi _ => match st with
      | .int x :: r => some (m_ts ex lo hi x, ls, r, S)
      | _ => none
    | .lookupswitch _ ps => match st with
      | .int x :: r => some (m_lkF (ex.getD 0 0) ps.toList (ex.drop 1) x.toInt, ls, r, S)
      | _ => none
    | .getstatic _ => match ex with
      | [g] => some (nx, ls, .ref g :: st, S)
      | _ => none
    | .ldc _ => match ex with
      | [g] => some (nx, ls, .ref g :: st, S)
      | _ => none
    | .getfield _ => m_gf nx ls S ex st
    | .putfield _ => m_pf nx ls S ex st
    | _ => none
def m_cd (c : Jvm.ClassFile.Cond) (x y : Int32) : Prop := match c with
  | .eq => x = y
  | .ne => ¬ x = y
  | .lt => x < y
  | .ge => y ≤ x
  | .gt => y < x
  | .le => x ≤ y
/-- branches: the condition, where to, the stack behind it -/
def m_br (e : mE) (st : List Value) : Option (Prop × Nat × List Value) :=
  match e with
  | (i, _, ex, _, _) => match i with
    | .ifCond c _ => match ex, st with
      | [t], .int x :: r => some (m_cd c x 0, t, r)
      | _, _ => none
    | .if_icmp c _ => match ex, st with
      | [t], .int y :: .int x :: r => some (m_cd c x y, t, r)
      | _, _ => none
    | _ => none
def m_ld (S : mS) (a : Nat) (i : Int32) : Int32 := bif Nat.blt a 500 then S.2.2 a i.toNatClampNeg else m_sv a i.toNatClampNeg
/-- an array of ints that may be read, written; of booleans -/
def m_rI (a : Nat) : Bool := ((m_ai a).isSome && !(m_az a)) || Nat.beq a 500 || Nat.beq a 501 || Nat.beq a 502
def m_wI (a : Nat) : Bool := (m_ai a).isSome && !(m_az a)
def m_rZ (a : Nat) : Bool := (m_ai a).isSome && m_az a
def m_chs : List (List Int32) := [[86, 86, 86, 86, 86, 86, 86, 86, 86, 86, 86, 78, 78, 78, 78, 86, 78, 78, 78, 78, 83, 45, 86, 78], [45, 75, 65, 86, 84, 45, 84, 86, 86, 86, 86, 86, 86, 86, 86, 78, 45, 78, 78, 78, 45, 45, 86, 45], [45, 45, 78, 45, 83, 83, 86, 45, 45, 78, 78, 45, 45, 45, 78, 78, 45, 45, 45, 83, 45, 45, 78, 45]]
def m_ch (a : Nat) (i : Int32) : Int32 := (m_chs.getD (a - 600) []).getD i.toNatClampNeg 0
/-- the steps that go on if something holds -/
def m_g (e : mE) (st : List Value) (S : mS) : Option (Prop × List Value × mS) :=
  match e with
  | (i, _, ex, _, _) => match i with
    | .putfield _ => match ex, st with
      | [c, _, q, 2, _], .int x :: .ref a :: r => bif Nat.beq a c then some (x = 0 ∨ x = 1, r, (upd S.1 q x, S.2)) else none
      | _, _ => none
    | .iaload => match st with
      | .int i :: .ref a :: r => bif m_rI a then some (vp_in i (m_len a), .int (m_ld S a i) :: r, S) else none
      | _ => none
    | .baload => match st with
      | .int i :: .ref a :: r => bif m_rZ a then some (vp_in i (m_len a), .int (S.2.2 a i.toNatClampNeg) :: r, S) else none
      | _ => none
    | .iastore => match st with
      | .int x :: .int i :: .ref a :: r => bif m_wI a then some (vp_in i (m_len a), r, (S.1, S.2.1, va_up S.2.2 a (upd (S.2.2 a) i.toNatClampNeg x))) else none
      | _ => none
    | .bastore => match st with
      | .int x :: .int i :: .ref a :: r => bif m_rZ a then some ((x = 0 ∨ x = 1) ∧ vp_in i (m_len a), r, (S.1, S.2.1, va_up S.2.2 a (upd (S.2.2 a) i.toNatClampNeg x))) else none
      | _ => none
    | .arraylength => match st with
      | .ref a :: r => bif (m_ai a).isSome then some (True, .int (Int32.ofNat (m_len a)) :: r, S) else none
      | _ => none
    | .idiv => match st with
      | .int y :: .int x :: r => some (¬ y = 0, .int (x / y) :: r, S)
      | _ => none
    | .ldiv => match st with
      | .long y :: .long x :: r => some (¬ y = 0, .long (x / y) :: r, S)
      | _ => none
    | _ => none
/-- answers -/
def m_rv (e : mE) (st : List Value) : Option (Prop × Option Value) :=
  match e with
  | (i, _, ex, _, _) => match i with
    | .ireturn => match ex, st with
      | [0], [.int x] => some (True, some (.int x))
      | [1], [.int x] => some (x = 0 ∨ x = 1, some (.int x))
      | _, _ => none
    | .lreturn => match st with
      | [.long x] => some (True, some (.long x))
      | _ => none
    | .return_ => match st with
      | [] => some (True, none)
      | _ => none
    | _ => none
/-- calls: whom, with what, the stack below -/
def m_iv (e : mE) (st : List Value) : Option (Nat × List Value × List Value) :=
  match e with
  | (i, _, ex, _, _) => match i with
    | .invokestatic _ => match ex with
      | [M'] => bif m_is M' && Nat.ble (m_np M') st.length && Nat.ble (((st.drop (m_np M')).map fun v => v.category).sum) 8 && Nat.ble (((st.take (m_np M')).map fun v => v.category).sum) (m_mx M') then some (M', (st.take (m_np M')).reverse, st.drop (m_np M')) else none
      | _ => none
    | .invokevirtual _ => match ex, st.drop (m_np (ex.getD 0 0)) with
      | [M'], .ref a :: r => bif !(m_is M') && Nat.beq a (m_ow M') && Nat.ble (m_np M') st.length && Nat.ble ((r.map fun v => v.category).sum) 8 && Nat.ble (((st.take (m_np M')).map fun v => v.category).sum + 1) (m_mx M') then some (M', .ref a :: (st.take (m_np M')).reverse, r) else none
      | _, _ => none
    | _ => none
/-- a char of a text: which text, which place, the stack below -/
def m_cr (e : mE) (st : List Value) : Option (Nat × Int32 × List Value) :=
  match e with
  | (i, _, ex, _, _) => match i with
    | .invokevirtual _ => match ex, st with
      | [9999], .int i :: .ref a :: r => bif Nat.blt a 603 && Nat.blt 599 a && Nat.ble ((r.map fun v => v.category).sum) 8 then some (a, i, r) else none
      | _, _ => none
    | _ => none
abbrev mX : Type := Nat → Nat → Nat → mL → List Value → mS → mQ → Prop
/-- one step of the mini machine, as a demand -/
def m_T (X : mX) (d M pc : Nat) (ls : mL) (st : List Value) (S : mS) (Q : mQ) : Prop :=
  match m_code M pc with
  | none => False
  | some e => match m_p e ls st S with
    | some (pc', ls', st', S') => X d M pc' ls' st' S' Q
    | none => match m_br e st with
      | some (P, t, r) => (P → X d M t ls r S Q) ∧ (¬ P → X d M e.2.1 ls r S Q)
      | none => match m_g e st S with
        | some (G, st', S') => G ∧ X d M e.2.1 ls st' S' Q
        | none => match m_rv e st with
          | some (G, v) => G ∧ Q v S
          | none => match m_cr e st with
            | some (a, i, r) => 4 ≤ d ∧ vp_in i 24 ∧ X d M e.2.1 ls (.int (m_ch a i) :: r) S Q
            | none => match m_iv e st with
              | some (M', as, r) => 0 < d ∧ X (d - 1) M' 0 (lv_args 0 as) [] S (fun v S' => X d M e.2.1 ls (v.toList ++ r) S' Q)
              | none => False
def m_mono (X : mX) : Prop := ∀ d M pc ls st S Q Q', (∀ v S', Q v S' → Q' v S') → X d M pc ls st S Q → X d M pc ls st S Q'
/-- from here the mini machine comes to an answer with Q, d frames deep at most -/
def Wp (d M pc : Nat) (ls : mL) (st : List Value) (S : mS) (Q : mQ) : Prop :=
  ∀ X : mX, m_mono X → (∀ d M pc ls st S Q, m_T X d M pc ls st S Q → X d M pc ls st S Q) → X d M pc ls st S Q
theorem Wp.mono {d M pc : Nat} {ls : mL} {st : List Value} {S : mS} {Q Q' : mQ} (h : Wp d M pc ls st S Q) (hq : ∀ v S', Q v S' → Q' v S') : Wp d M pc ls st S Q' :=
  fun X hm hc => hm _ _ _ _ _ _ _ _ hq (h X hm hc)
theorem m_T.le {X Y : mX} (hY : m_mono Y) (hXY : ∀ d M pc ls st S Q, X d M pc ls st S Q → Y d M pc ls st S Q) {d M pc : Nat} {ls : mL} {st : List Value} {S : mS} {Q : mQ} (h : m_T X d M pc ls st S Q) : m_T Y d M pc ls st S Q := by
  unfold m_T at h ⊢
  split
  · next e1 => rw [e1] at h; exact h
  · next e e1 =>
    rw [e1] at h
    dsimp only at h
    split
    · next e2 => rw [e2] at h; exact hXY _ _ _ _ _ _ _ h
    · next e2 =>
      rw [e2] at h
      dsimp only at h
      split
      · next e3 => rw [e3] at h; exact ⟨fun p => hXY _ _ _ _ _ _ _ (h.1 p), fun p => hXY _ _ _ _ _ _ _ (h.2 p)⟩
      · next e3 =>
        rw [e3] at h
        dsimp only at h
        split
        · next e4 => rw [e4] at h; exact ⟨h.1, hXY _ _ _ _ _ _ _ h.2⟩
        · next e4 =>
          rw [e4] at h
          dsimp only at h
          split
          · next e5 => rw [e5] at h; exact h
          · next e5 =>
            rw [e5] at h
            dsimp only at h
            split
            · next e7 => rw [e7] at h; exact ⟨h.1, h.2.1, hXY _ _ _ _ _ _ _ h.2.2⟩
            · next e7 =>
             rw [e7] at h
             dsimp only at h
             split
             · next e6 => rw [e6] at h; exact ⟨h.1, hY _ _ _ _ _ _ _ _ (fun v S' q => hXY _ _ _ _ _ _ _ q) (hXY _ _ _ _ _ _ _ h.2)⟩
             · next e6 => rw [e6] at h; exact h
theorem Wp.fold {d M pc : Nat} {ls : mL} {st : List Value} {S : mS} {Q : mQ} (h : m_T Wp d M pc ls st S Q) : Wp d M pc ls st S Q :=
  fun X hm hc => hc _ _ _ _ _ _ _ (h.le hm (fun _ _ _ _ _ _ _ w => w X hm hc))
/-- a method from its start -/
abbrev Ev (d M : Nat) (as : List Value) (S : mS) (Q : mQ) : Prop := Wp d M 0 (lv_args 0 as) [] S Q
-- the rows
def m_pc (M pc : Nat) (ls : mL) (st : List Value) (S : mS) : Option (Nat × mL × List Value × mS) := match m_code M pc with
  | some e => m_p e ls st S
  | none => none
theorem Wp.p {d M pc pc' : Nat} {ls ls' : mL} {st st' : List Value} {S S' : mS} {Q : mQ} (h : m_pc M pc ls st S = some (pc', ls', st', S')) (k : Wp d M pc' ls' st' S' Q) : Wp d M pc ls st S Q := by
  apply Wp.fold
  unfold m_pc at h
  unfold m_T
  cases hc : m_code M pc with
  | none => rw [hc] at h; cases h
  | some e =>
    rw [hc] at h
    dsimp only at h ⊢
    rw [h]
    exact k
def m_bc (M pc : Nat) (ls : mL) (st : List Value) (S : mS) : Option (Prop × Nat × Nat × List Value) := match m_code M pc with
  | some e => match m_p e ls st S with
    | some _ => none
    | none => match m_br e st with
      | some (P, t, r) => some (P, t, e.2.1, r)
      | none => none
  | none => none
theorem Wp.b {d M pc t nx : Nat} {ls : mL} {st r : List Value} {S : mS} {Q : mQ} {P : Prop} (h : m_bc M pc ls st S = some (P, t, nx, r)) (kt : P → Wp d M t ls r S Q) (kf : ¬ P → Wp d M nx ls r S Q) : Wp d M pc ls st S Q := by
  apply Wp.fold
  unfold m_bc at h
  unfold m_T
  cases hc : m_code M pc with
  | none => rw [hc] at h; cases h
  | some e =>
    rw [hc] at h
    dsimp only at h ⊢
    cases hp : m_p e ls st S with
    | some x => rw [hp] at h; cases h
    | none =>
      rw [hp] at h
      dsimp only at h ⊢
      cases hb : m_br e st with
      | none => rw [hb] at h; cases h
      | some x =>
        obtain ⟨P', t', r'⟩ := x
        rw [hb] at h
        cases h
        exact ⟨kt, kf⟩
def m_gc (M pc : Nat) (ls : mL) (st : List Value) (S : mS) : Option (Prop × Nat × List Value × mS) := match m_code M pc with
  | some e => match m_p e ls st S with
    | some _ => none
    | none => match m_br e st with
      | some _ => none
      | none => match m_g e st S with
        | some (G, st', S') => some (G, e.2.1, st', S')
        | none => none
  | none => none
theorem Wp.g {d M pc nx : Nat} {ls : mL} {st st' : List Value} {S S' : mS} {Q : mQ} {G : Prop} (h : m_gc M pc ls st S = some (G, nx, st', S')) (hG : G) (k : Wp d M nx ls st' S' Q) : Wp d M pc ls st S Q := by
  apply Wp.fold
  unfold m_gc at h
  unfold m_T
  cases hc : m_code M pc with
  | none => rw [hc] at h; cases h
  | some e =>
    rw [hc] at h
    dsimp only at h ⊢
    cases hp : m_p e ls st S with
    | some x => rw [hp] at h; cases h
    | none =>
      rw [hp] at h
      dsimp only at h ⊢
      cases hb : m_br e st with
      | some x => rw [hb] at h; cases h
      | none =>
        rw [hb] at h
        dsimp only at h ⊢
        cases hg : m_g e st S with
        | none => rw [hg] at h; cases h
        | some x =>
          obtain ⟨G', a', b'⟩ := x
          rw [hg] at h
          cases h
          exact ⟨hG, k⟩
def m_rc (M pc : Nat) (ls : mL) (st : List Value) (S : mS) : Option (Prop × Option Value) := match m_code M pc with
  | some e => match m_p e ls st S with
    | some _ => none
    | none => match m_br e st with
      | some _ => none
      | none => match m_g e st S with
        | some _ => none
        | none => m_rv e st
  | none => none
theorem Wp.r {d M pc : Nat} {ls : mL} {st : List Value} {S : mS} {Q : mQ} {G : Prop} {v : Option Value} (h : m_rc M pc ls st S = some (G, v)) (hG : G) (k : Q v S) : Wp d M pc ls st S Q := by
  apply Wp.fold
  unfold m_rc at h
  unfold m_T
  cases hc : m_code M pc with
  | none => rw [hc] at h; cases h
  | some e =>
    rw [hc] at h
    dsimp only at h ⊢
    cases hp : m_p e ls st S with
    | some x => rw [hp] at h; cases h
    | none =>
      rw [hp] at h
      dsimp only at h ⊢
      cases hb : m_br e st with
      | some x => rw [hb] at h; cases h
      | none =>
        rw [hb] at h
        dsimp only at h ⊢
        cases hg : m_g e st S with
        | some x => rw [hg] at h; cases h
        | none =>
          rw [hg] at h
          dsimp only at h ⊢
          rw [h]
          exact ⟨hG, k⟩
def m_ic (M pc : Nat) (ls : mL) (st : List Value) (S : mS) : Option (Nat × Nat × List Value × List Value) := match m_code M pc with
  | some e => match m_p e ls st S with
    | some _ => none
    | none => match m_br e st with
      | some _ => none
      | none => match m_g e st S with
        | some _ => none
        | none => match m_rv e st with
          | some _ => none
          | none => match m_cr e st with
            | some _ => none
            | none => match m_iv e st with
              | some (M', as, r) => some (e.2.1, M', as, r)
              | none => none
  | none => none
theorem Wp.i {d M pc nx M' : Nat} {ls : mL} {st as r : List Value} {S : mS} {Q : mQ} (h : m_ic M pc ls st S = some (nx, M', as, r)) (k : Ev d M' as S (fun v S' => Wp (d + 1) M nx ls (v.toList ++ r) S' Q)) : Wp (d + 1) M pc ls st S Q := by
  apply Wp.fold
  unfold m_ic at h
  unfold m_T
  cases hc : m_code M pc with
  | none => rw [hc] at h; cases h
  | some e =>
    rw [hc] at h
    dsimp only at h ⊢
    cases hp : m_p e ls st S with
    | some x => rw [hp] at h; cases h
    | none =>
      rw [hp] at h
      dsimp only at h ⊢
      cases hb : m_br e st with
      | some x => rw [hb] at h; cases h
      | none =>
        rw [hb] at h
        dsimp only at h ⊢
        cases hg : m_g e st S with
        | some x => rw [hg] at h; cases h
        | none =>
          rw [hg] at h
          dsimp only at h ⊢
          cases hr : m_rv e st with
          | some x => rw [hr] at h; cases h
          | none =>
            rw [hr] at h
            dsimp only at h ⊢
            cases hcr : m_cr e st with
            | some x => rw [hcr] at h; cases h
            | none =>
              rw [hcr] at h
              dsimp only at h ⊢
              cases hi : m_iv e st with
              | none => rw [hi] at h; cases h
              | some x =>
                obtain ⟨a', b', c'⟩ := x
                rw [hi] at h
                cases h
                exact ⟨Nat.succ_pos d, k⟩
def m_cc (M pc : Nat) (ls : mL) (st : List Value) (S : mS) : Option (Nat × Nat × Int32 × List Value) := match m_code M pc with
  | some e => match m_p e ls st S with
    | some _ => none
    | none => match m_br e st with
      | some _ => none
      | none => match m_g e st S with
        | some _ => none
        | none => match m_rv e st with
          | some _ => none
          | none => match m_cr e st with
            | some (a, i, r) => some (e.2.1, a, i, r)
            | none => none
  | none => none
theorem Wp.c {d M pc nx a : Nat} {i : Int32} {ls : mL} {st r : List Value} {S : mS} {Q : mQ} (h : m_cc M pc ls st S = some (nx, a, i, r)) (hd : 4 ≤ d) (hi : vp_in i 24) (k : Wp d M nx ls (.int (m_ch a i) :: r) S Q) : Wp d M pc ls st S Q := by
  apply Wp.fold
  unfold m_cc at h
  unfold m_T
  cases hc : m_code M pc with
  | none => rw [hc] at h; cases h
  | some e =>
    rw [hc] at h
    dsimp only at h ⊢
    cases hp : m_p e ls st S with
    | some x => rw [hp] at h; cases h
    | none =>
      rw [hp] at h
      dsimp only at h ⊢
      cases hb : m_br e st with
      | some x => rw [hb] at h; cases h
      | none =>
        rw [hb] at h
        dsimp only at h ⊢
        cases hg : m_g e st S with
        | some x => rw [hg] at h; cases h
        | none =>
          rw [hg] at h
          dsimp only at h ⊢
          cases hr : m_rv e st with
          | some x => rw [hr] at h; cases h
          | none =>
            rw [hr] at h
            dsimp only at h ⊢
            cases hcr : m_cr e st with
            | none => rw [hcr] at h; cases h
            | some x =>
              obtain ⟨a', b', c'⟩ := x
              rw [hcr] at h
              cases h
              exact ⟨hd, hi, k⟩
-- a try: Heap.isFull, Heap.kindOf
theorem t_isFull (d : Nat) (S : mS) (Q : mQ) (h1 : 40 ≤ S.1 5 → Q (some (.int 1)) S) (h2 : ¬ 40 ≤ S.1 5 → Q (some (.int 0)) S) : Ev d n_X0_isFull [.ref 0] S Q := by
  iterate 3 refine Wp.p rfl ?_
  refine Wp.b rfl (fun h => ?_) (fun h => ?_)
  · refine Wp.p rfl ?_
    refine Wp.r rfl (Or.inl rfl) (h2 (Int32.not_le.mpr h))
  · iterate 2 refine Wp.p rfl ?_
    refine Wp.r rfl (Or.inr rfl) (h1 (Int32.not_lt.mp h))
