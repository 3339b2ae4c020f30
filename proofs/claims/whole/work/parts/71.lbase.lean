abbrev l_A (s : State) : Nat → Prop := fun q => s.heap.size ≤ q
/-- what stands all through the law -/
def l_b (p : Program) (s : State) (m : MethodId) (c : Code) (b L : Nat) (xs : Nat → Int32) (D : va_G) (ad : Nat → Nat) (cI cZ cJ : ClassId) (sa : Nat) : Prop :=
  z_F p s m #[Value.ref b] c code 7 lw_tbl RL D ad cI cZ (l_A s) ∧ va_X b L xs s s.heap ∧ b < s.heap.size ∧ va_K D vwCl (l_tys cI cZ cJ) s ∧ x_N sa (l_A s) s s.heap ∧ L ≤ 3072
def l_at (ls : Array Slot) (ad : Nat → Nat) (b o n : Nat) : Prop := lv_has ls 7 [(4, .int (nI (6 * n))), (3, .ref o), (2, .ref (ad 6)), (1, .ref (ad 5)), (0, .ref b)]
section LB
variable {p : Program} {l : Launch} {e : Env} {s : State} {m : MethodId} {below : List Frame} {meth : Method} {c : Code} {H : Heap} {locs : List Loc} {cells slots : Nat} {Q : State → Prop}
variable {D : va_G} {ad : Nat → Nat} {cI cZ cJ : ClassId} {pc : Nat} {ls : Array Slot} {S : mS} {o sa : Nat} {g : Nat → Int64} {b L n : Nat} {xs : Nat → Int32} {rest : List Value}
/-- a number of the script, behind the call's first -/
theorem l_rd {i : Int} {k : Nat} (B : l_b p s m c b L xs D ad cI cZ cJ sa) (hS : l_S D ad cI cZ cJ (l_A s) s H locs S o g) (hl : l_at ls ad b o n) (hn : 6 * n + 6 ≤ L) (hi : Int32.ofInt i = nI k) (hk : k < 6)
    (d0 : decode code pc = .ok (.aload_n 0, 1)) (d1 : decode code (pc + 1) = .ok (.iload 4, 2)) (d2 : decode code (pc + 3) = .ok (.iconst i, 1)) (d3 : decode code (pc + 4) = .ok (.iadd, 1)) (d4 : decode code (pc + 5) = .ok (.iaload, 1))
    (kk : W p l e room_1 s m #[Value.ref b] below meth c H locs cells slots Q (F0 m (pc + 6) ls (.int (xs (6 * n + k)) :: rest))) : W p l e room_1 s m #[Value.ref b] below meth c H locs cells slots Q (F0 m pc ls rest) := by
  obtain ⟨⟨⟨hx, hb, -⟩, -⟩, hX, hbl, -, -, hL⟩ := B
  refine lv_aload_n hx hb d0 rfl (lv_at hl 4 rfl) ?_
  refine lv_iload hx hb d1 (lv_at hl 0 rfl) ?_
  refine lv_iconst hx hb d2 hi ?_
  refine lv_iadd hx hb d3 ?_
  rw [nI_add]
  refine va_sld hx hb hX hbl (A := l_A s) (fun h => absurd hbl (Nat.not_lt.mpr h)) hS.2.2 (nI_in (by omega) (by omega)) d4 ?_
  rw [nI_clamp (by omega)]
  exact kk
theorem l_rd0 (B : l_b p s m c b L xs D ad cI cZ cJ sa) (hS : l_S D ad cI cZ cJ (l_A s) s H locs S o g) (hl : l_at ls ad b o n) (hn : 6 * n + 6 ≤ L)
    (kk : ∀ t, t < 16 → W p l e room_1 s m #[Value.ref b] below meth c H locs cells slots Q (F0 m 40 ls [.int (nI t)])) : W p l e room_1 s m #[Value.ref b] below meth c H locs cells slots Q (F0 m 33 ls []) := by
  obtain ⟨⟨⟨hx, hb, -⟩, -⟩, hX, hbl, -, -, hL⟩ := B
  refine lv_aload_n hx hb w_33 rfl (lv_at hl 4 rfl) ?_
  refine lv_iload hx hb w_34 (lv_at hl 0 rfl) ?_
  refine va_sld hx hb hX hbl (A := l_A s) (fun h => absurd hbl (Nat.not_lt.mpr h)) hS.2.2 (nI_in (by omega) (by omega)) w_36 ?_
  refine lv_bipush (v := 15) hx hb w_37 (by decide) ?_
  refine lv_iand hx hb w_39 ?_
  obtain ⟨t, ht, e1⟩ := and15 (xs (nI (6 * n)).toNatClampNeg)
  rw [e1]
  exact kk t ht
theorem l_cmp {x y : Int64} (h : x = y) : lg_cmp x y = 0 := by
  subst h
  unfold lg_cmp
  rw [if_neg (fun h => Int64.lt_irrefl h), if_pos rfl]
theorem l_call5 {Qm : mQ} {M ix : Nat} {as rest : List Value} (B : l_b p s m c b L xs D ad cI cZ cJ sa) (hS : l_S D ad cI cZ cJ (l_A s) s H locs S o g) (hl : l_at ls ad b o n) (hE : Ev 9 M (.ref (m_ow M) :: as) S Qm) (hM : M < m_NM) (hst : m_is M = false)
    (hcat : ((Value.ref (m_ow M) :: as).map fun v => v.category).sum ≤ m_mx M) (hlk : Cond.methodLink RL ix (m_y M) ∈ m_gws) (hn : as.length = m_np M) (hRm : m_mx M ≤ 22)
    (hW8 : (rest.map fun v => v.category).sum ≤ 8) (hR : cells ≤ 1068 ∧ slots ≤ 21951) (hd : decode code pc = .ok (.invokevirtual ix, 3))
    (kk : ∀ (v : Option Value) (S' : mS) (H1 : Heap) (locs1 : List Loc), Qm v S' → l_S D ad cI cZ cJ (l_A s) s H1 locs1 S' o g → W p l e room_1 s m #[Value.ref b] below meth c H1 locs1 cells slots Q (F0 m (pc + 3) ls (v.toList ++ rest))) :
    W p l e room_1 s m #[Value.ref b] below meth c H locs cells slots Q (F0 m pc ls ((as.map (m_v ad)).reverse ++ .ref (ad (m_ow M)) :: rest)) := by
  refine l_call (R := room_1) B.1 hS hE hM hst hcat hlk hn ⟨by show 9 + 1 ≤ 10; decide, ?_⟩ hl.1 hW8 hR hd kk
  show 8 + (m_mx M + 11) + 37 * 9 ≤ 374
  omega
end LB
