theorem st_inv : Inv 0 st_S := by
  refine ⟨0, ⟨by decide, by decide, ⟨by decide, fun j hj => absurd hj (Nat.not_lt_zero j)⟩, rfl, rfl, rfl, rfl, rfl⟩, ⟨rfl, rfl, 0, 0, by decide, by decide, by decide, by decide, by decide, by decide⟩, ⟨rfl, ⟨fun _ => by decide, fun _ => by decide⟩, fun z => absurd (by decide) z⟩, fun z => absurd (by decide) z, fun z => absurd (by decide) z⟩
theorem st_arr {args : Array Value} {s : State} {ty : FieldType} (h : (Cond.arrayClass ty).before args s = true) : ∃ cA : ClassId, ArrOfT s cA ty ∧ s.vm.findClass ("[" ++ ty.toString) = some cA := by
  obtain ⟨cA, kA, comp, h1, h2, h3⟩ := Cond.arrayClass_spec h
  exact ⟨cA, fun n z => ⟨fun k h => (by cases h), kA, h2, comp, h3⟩, h1⟩
theorem st_D {args : Array Value} {s : State} (hg : ∀ w ∈ m_gws, w.before args s = true) : ∃ D : va_G, ∀ (c : Nat) (q : vw_C), vwCl[c]? = some q → u_Kn s q.1 q.2.1 q.2.2 (D.1 c) (D.2 c) := by
  have h : ∀ c : Nat, ∃ x : ClassId × (Nat → Nat), ∀ q : vw_C, vwCl[c]? = some q → u_Kn s q.1 q.2.1 q.2.2 x.1 x.2 := by
    intro c
    have use : ∀ (c n : Nat), c < 7 → Cond.instantiable (m_R c) n ∈ m_gws → ∃ x : ClassId × (Nat → Nat), ∀ q : vw_C, vwCl[c]? = some q → u_Kn s q.1 q.2.1 q.2.2 x.1 x.2 := by
      intro c n hc hi
      obtain ⟨cC, iS, hK⟩ := u_known hg (m_uws hc) (hg _ hi)
      refine ⟨(cC, iS), fun q hq => ?_⟩
      rw [m_cl hc] at hq
      cases hq
      exact hK
    match c with
    | 0 => exact use 0 6 (by decide) q_is0
    | 1 => exact use 1 12 (by decide) q_is1
    | 2 => exact use 2 7 (by decide) q_is2
    | 3 => exact use 3 6 (by decide) q_is3
    | 4 => exact use 4 4 (by decide) q_is4
    | 5 => exact use 5 4 (by decide) q_is5
    | 6 => exact use 6 31 (by decide) q_is6
    | c + 7 => exact ⟨(default, fun _ => 0), fun q hq => by
        have := (List.getElem?_eq_some_iff.mp hq).1
        simp at this
        omega⟩
  exact ⟨(fun c => (Classical.choose (h c)).1, fun c => (Classical.choose (h c)).2), fun c q hq => Classical.choose_spec (h c) q hq⟩
theorem st_K {args : Array Value} {s : State} (hg : ∀ w ∈ m_gws, w.before args s = true) : ∃ (D : va_G) (cI cZ : ClassId), va_K D vwCl (m_tys cI cZ) s := by
  obtain ⟨D, hD⟩ := st_D hg
  obtain ⟨cI, i1, i2⟩ := st_arr (hg _ q_a_int)
  obtain ⟨cZ, z1, z2⟩ := st_arr (hg _ q_a_boolean)
  refine ⟨D, cI, cZ, hD, fun k q hk => ?_⟩
  match k, hk with
  | 0, hk => cases hk; exact ⟨i1, i2⟩
  | 1, hk => cases hk; exact ⟨z1, z2⟩
  | k + 2, hk => exact absurd (List.getElem?_eq_some_iff.mp hk).1 (by show ¬ k + 2 < 2; omega)
