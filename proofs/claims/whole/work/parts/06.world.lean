/-- a mini value in the machine: references by the address map -/
def m_v (ad : Nat → Nat) : Value → Value
  | .ref a => .ref (ad a)
  | v => v
theorem m_v_cat (ad : Nat → Nat) (v : Value) : (m_v ad v).category = v.category := by cases v <;> rfl
def m_vl (ad : Nat → Nat) (ls : mL) : List (Nat × Value) := ls.map fun q => (q.1, m_v ad q.2)
def m_f (S : mS) (c k : Nat) : Value := match (m_fd (40 * c + k)).1 with
  | 0 => .int (S.1 (40 * c + k))
  | 1 => .ref (m_fd (40 * c + k)).2
  | 2 => .int (S.1 (40 * c + k))
  | _ => .long S.2.1
def m_fs (ad : Nat → Nat) (S : mS) (c : Nat) : List Value := (List.range (m_nf c)).map fun k => m_v ad (m_f S c k)
def m_wo (ad : Nat → Nat) (S : mS) : va_W := (List.range 7).map fun c => (ad c, .inr (c, m_fs ad S c))
def m_wa (ad : Nat → Nat) (cI cZ : ClassId) (S : mS) : va_W := m_ar.map fun q => (ad q.1, .inl (bif q.2.2 then cZ else cI, q.2.1, .inl (S.2.2 q.1)))
/-- the cells of the mini machine's heap -/
def m_w (ad : Nat → Nat) (cI cZ : ClassId) (S : mS) : va_W := m_wo ad S ++ m_wa ad cI cZ S
theorem m_wo_len (ad : Nat → Nat) (S : mS) : (m_wo ad S).length = 7 := by simp [m_wo]
theorem m_wo_at {ad : Nat → Nat} {S : mS} {c : Nat} (h : c < 7) : (m_wo ad S)[c]? = some (ad c, .inr (c, m_fs ad S c)) := by
  unfold m_wo
  rw [List.getElem?_map, List.getElem?_range h]
  rfl
theorem m_w_obj {ad : Nat → Nat} {cI cZ : ClassId} {S : mS} {c : Nat} (h : c < 7) : (m_w ad cI cZ S)[c]? = some (ad c, .inr (c, m_fs ad S c)) := by
  unfold m_w
  rw [List.getElem?_append_left (by rw [m_wo_len]; exact h)]
  exact m_wo_at h
theorem m_ai_500 {a : Nat} (h : 500 ≤ a) : m_ai a = none := by
  have hb : ∀ k, k ≤ 500 → Nat.blt a k = false := fun k hk => by
    cases hx : Nat.blt a k with
    | false => rfl
    | true => exact absurd (Nat.le_of_ble_eq_true hx) (by omega)
  have he : ∀ k, k < 500 → Nat.beq a k = false := fun k hk => by
    cases hx : Nat.beq a k with
    | false => rfl
    | true => exact absurd (Nat.eq_of_beq_eq_true hx) (by omega)
  unfold m_ai
  repeat (first | rw [hb _ (by decide)] | rw [he _ (by decide)] | rw [cond_false])
theorem m_ai_at0 : ∀ a, a < 500 → (m_ai a).all (fun j => decide (m_ar[j]? = some (a, m_len a, m_az a))) = true := by decide +kernel
theorem m_ai_lt0 : ∀ a, a < 500 → (m_ai a).all (fun j => decide (j < 40)) = true := by decide +kernel
theorem m_ai_lt {a j : Nat} (h : m_ai a = some j) : a < 500 ∧ j < 40 := by
  have ha : a < 500 := by
    rcases Nat.lt_or_ge a 500 with q | q
    · exact q
    · rw [m_ai_500 q] at h; cases h
  have h2 := m_ai_lt0 a ha
  rw [h] at h2
  exact ⟨ha, of_decide_eq_true h2⟩
theorem m_ai_at {a j : Nat} (h : m_ai a = some j) : m_ar[j]? = some (a, m_len a, m_az a) := by
  have h2 := m_ai_at0 a (m_ai_lt h).1
  rw [h] at h2
  exact of_decide_eq_true h2
theorem m_ar_back : ∀ n, n < 40 → (m_ar[n]?).all (fun q => decide (m_ai q.1 = some n)) = true := by decide +kernel
theorem m_ar_len : m_ar.length ≤ 40 := by decide +kernel
theorem m_ar_inj {n a : Nat} {q : Nat × Bool} (h : m_ar[n]? = some (a, q)) : m_ai a = some n := by
  have hn : n < 40 := Nat.lt_of_lt_of_le (List.getElem?_eq_some_iff.mp h).1 m_ar_len
  have h2 := m_ar_back n hn
  rw [h] at h2
  exact of_decide_eq_true h2
theorem m_wa_at {ad : Nat → Nat} {cI cZ : ClassId} {S : mS} {a j : Nat} (h : m_ai a = some j) : (m_wa ad cI cZ S)[j]? = some (ad a, .inl (bif m_az a then cZ else cI, m_len a, .inl (S.2.2 a))) := by
  unfold m_wa
  rw [List.getElem?_map, m_ai_at h]
  rfl
theorem m_w_arr {ad : Nat → Nat} {cI cZ : ClassId} {S : mS} {a j : Nat} (h : m_ai a = some j) : (m_w ad cI cZ S)[7 + j]? = some (ad a, .inl (bif m_az a then cZ else cI, m_len a, .inl (S.2.2 a))) := by
  unfold m_w
  rw [List.getElem?_append_right (by rw [m_wo_len]; omega), m_wo_len, Nat.add_sub_cancel_left]
  exact m_wa_at h
theorem m_nf_le : ∀ c, c < 7 → m_nf c ≤ 40 := by decide +kernel
theorem m_f_put {S : mS} {c k c' k' : Nat} {x : Int32} (hk : k < 40) (hk' : k' < 40) (hne : ¬ (c' = c ∧ k' = k)) : m_f (upd S.1 (40 * c + k) x, S.2) c' k' = m_f S c' k' := by
  have hq : 40 * c' + k' ≠ 40 * c + k := by omega
  unfold m_f
  dsimp only
  rw [show upd S.1 (40 * c + k) x (40 * c' + k') = S.1 (40 * c' + k') from if_neg hq]
theorem m_fs_put {ad : Nat → Nat} {S : mS} {c k : Nat} {x : Int32} (hc : c < 7) (hk : k < m_nf c) (hkd : (m_fd (40 * c + k)).1 = 0 ∨ (m_fd (40 * c + k)).1 = 2) : m_fs ad (upd S.1 (40 * c + k) x, S.2) c = (m_fs ad S c).set k (.int x) := by
  have h40 := m_nf_le c hc
  apply List.ext_getElem?
  intro n
  unfold m_fs
  rw [List.getElem?_set, List.getElem?_map]
  by_cases hn : k = n
  · subst hn
    rw [List.getElem?_range hk, if_pos rfl, if_pos (by simpa using hk)]
    show some (m_v ad (m_f _ c k)) = some (.int x)
    congr 1
    unfold m_f
    rcases hkd with h | h <;> rw [h] <;> (show Value.int (upd _ _ _ _) = _; rw [show upd S.1 (40 * c + k) x (40 * c + k) = x from if_pos rfl])
  · rw [if_neg hn, List.getElem?_map]
    by_cases hl : n < m_nf c
    · rw [List.getElem?_range hl]
      show some (m_v ad (m_f _ c n)) = some (m_v ad (m_f S c n))
      rw [m_f_put (by omega) (by omega) (fun q => hn q.2.symm)]
    · rw [List.getElem?_eq_none (by simpa using hl)]
      rfl
theorem m_wo_put {ad : Nat → Nat} {S : mS} {c k : Nat} {x : Int32} (hc : c < 7) (hk : k < m_nf c) (hkd : (m_fd (40 * c + k)).1 = 0 ∨ (m_fd (40 * c + k)).1 = 2) : m_wo ad (upd S.1 (40 * c + k) x, S.2) = (m_wo ad S).set c (ad c, .inr (c, (m_fs ad S c).set k (.int x))) := by
  have h40 := m_nf_le c hc
  apply List.ext_getElem?
  intro n
  rw [List.getElem?_set]
  by_cases hn : c = n
  · subst hn
    rw [m_wo_at hc, if_pos rfl, if_pos (by rw [m_wo_len]; exact hc), m_fs_put hc hk hkd]
  · rw [if_neg hn]
    by_cases hl : n < 7
    · rw [m_wo_at hl, m_wo_at hl]
      congr 4
      unfold m_fs
      apply List.map_congr_left
      intro k' hk'
      have := List.mem_range.mp hk'
      have := m_nf_le n hl
      rw [m_f_put (by omega) (by omega) (fun q => hn q.1.symm)]
    · rw [List.getElem?_eq_none (by rw [m_wo_len]; omega), List.getElem?_eq_none (by rw [m_wo_len]; omega)]
theorem m_w_put {ad : Nat → Nat} {cI cZ : ClassId} {S : mS} {c k : Nat} {x : Int32} (hc : c < 7) (hk : k < m_nf c) (hkd : (m_fd (40 * c + k)).1 = 0 ∨ (m_fd (40 * c + k)).1 = 2) : m_w ad cI cZ (upd S.1 (40 * c + k) x, S.2) = (m_w ad cI cZ S).set c (ad c, .inr (c, (m_fs ad S c).set k (.int x))) := by
  unfold m_w
  rw [m_wo_put hc hk hkd, List.set_append, if_pos (by rw [m_wo_len]; exact hc)]
  rfl
theorem m_long_at : ∀ c, c < 7 → ∀ k, k < m_nf c → 3 ≤ (m_fd (40 * c + k)).1 → c = 6 ∧ k = 9 := by decide +kernel
theorem m_f_long {S : mS} {c k : Nat} {y : Int64} (hc : c < 7) (hk : k < m_nf c) (hne : ¬ (c = 6 ∧ k = 9)) : m_f (S.1, y, S.2.2) c k = m_f S c k := by
  have h := m_long_at c hc k hk
  unfold m_f
  match hx : (m_fd (40 * c + k)).1 with
  | 0 => rfl
  | 1 => rfl
  | 2 => rfl
  | n + 3 => exact absurd (h (by rw [hx]; omega)) hne
theorem m_w_long {ad : Nat → Nat} {cI cZ : ClassId} {S : mS} {y : Int64} : m_w ad cI cZ (S.1, y, S.2.2) = (m_w ad cI cZ S).set 6 (ad 6, .inr (6, (m_fs ad S 6).set 9 (.long y))) := by
  unfold m_w
  rw [List.set_append, if_pos (by rw [m_wo_len]; decide)]
  congr 1
theorem m_w_ast {ad : Nat → Nat} {cI cZ : ClassId} {S : mS} {a j : Nat} {f : Nat → Int32} (h : m_ai a = some j) : m_w ad cI cZ (S.1, S.2.1, va_up S.2.2 a f) = (m_w ad cI cZ S).set (7 + j) (ad a, .inl (bif m_az a then cZ else cI, m_len a, .inl f)) := by
  unfold m_w
  rw [List.set_append, if_neg (by rw [m_wo_len]; omega), m_wo_len, Nat.add_sub_cancel_left]
  congr 1
  apply List.ext_getElem?
  intro n
  unfold m_wa
  rw [List.getElem?_set, List.getElem?_map]
  by_cases hn : j = n
  · subst hn
    rw [m_ai_at h, if_pos rfl, if_pos (by rw [List.length_map]; exact (List.getElem?_eq_some_iff.mp (m_ai_at h)).1)]
    show some (ad a, Sum.inl (_, _, Sum.inl (va_up S.2.2 a f a))) = _
    rw [show va_up S.2.2 a f a = f from if_pos rfl]
  · rw [if_neg hn, List.getElem?_map]
    cases hq : m_ar[n]? with
    | none => rfl
    | some q =>
      obtain ⟨a', x⟩ := q
      have hne : a' ≠ a := fun e => hn (Option.some.inj (h.symm.trans (by rw [← e]; exact m_ar_inj hq)))
      show some (ad a', Sum.inl (_, _, Sum.inl (va_up S.2.2 a f a'))) = some (ad a', Sum.inl (_, _, Sum.inl (S.2.2 a')))
      rw [show va_up S.2.2 a f a' = S.2.2 a' from if_neg hne]
theorem m_fs_at {ad : Nat → Nat} {S : mS} {c k : Nat} (hk : k < m_nf c) : (m_fs ad S c)[k]? = some (m_v ad (m_f S c k)) := by
  unfold m_fs
  rw [List.getElem?_map, List.getElem?_range hk]
  rfl
theorem m_fs_len (ad : Nat → Nat) (S : mS) (c : Nat) : (m_fs ad S c).length = m_nf c := by simp [m_fs]
theorem m_gl_at {ad : Nat → Nat} {lsr : Array Slot} {nL : Nat} : ∀ {ls : mL}, lv_has lsr nL (m_vl ad ls) → ∀ {i : Nat} {v : Value}, m_gl ls i = some v → lsr[i]? = some (.val (m_v ad v)) ∧ ∃ k : Nat, (m_vl ad ls)[k]? = some (i, m_v ad v) := by
  intro ls
  induction ls with
  | nil => intro _ i v h; cases h
  | cons q l ih =>
    intro hl i v h
    obtain ⟨j, w⟩ := q
    unfold m_gl at h
    cases hb : Nat.beq j i with
    | true =>
      rw [hb, cond_true] at h
      have hji := Nat.eq_of_beq_eq_true hb
      have hwv := Option.some.inj h
      rw [← hji, ← hwv]
      exact ⟨hl.2.2 (j, m_v ad w) (List.mem_cons_self), 0, rfl⟩
    | false =>
      rw [hb, cond_false] at h
      obtain ⟨h1, k, h2⟩ := ih ⟨hl.1, hl.2.1, fun q hq => hl.2.2 q (List.mem_cons_of_mem _ hq)⟩ h
      exact ⟨h1, k + 1, h2⟩
theorem m_sl_vl {ad : Nat → Nat} {ls : mL} {i : Nat} {v : Value} : (i, m_v ad v) :: (m_vl ad ls).filter (fun q => !(q.1 == i) && !(q.1 + 1 == i && q.2.category == 2)) = m_vl ad (m_sl ls i v) := by
  unfold m_sl m_vl
  rw [List.map_cons, List.filter_map]
  congr 2
  apply List.filter_congr
  intro q _
  show (!(q.1 == i) && !(q.1 + 1 == i && (m_v ad q.2).category == 2)) = _
  rw [m_v_cat]
