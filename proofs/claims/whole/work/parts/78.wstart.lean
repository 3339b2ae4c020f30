theorem w_n1 : Cond.classLink RL 8 RX5 ∈ m_gws := m_gw_in (k := 77) (by decide +kernel)
theorem w_n2 : Cond.classLink RL 16 RX6 ∈ m_gws := m_gw_in (k := 809) (by decide +kernel)
theorem w_n3 : Cond.methodLink RL 15 yX5_init ∈ m_gws := m_gw_in (k := 79) (by decide +kernel)
theorem w_n4 : Cond.methodLink RL 18 yX6_init ∈ m_gws := m_gw_in (k := 811) (by decide +kernel)
theorem w_n5 : Cond.methodLinkNest RX5 11 yX3_init "NullKinds" ∈ lw_tbl := List.mem_of_getElem? (i := 87) (by decide +kernel)
theorem w_n6 : Cond.methodLinkNest RX5 20 yX4_init "NullKinds" ∈ lw_tbl := List.mem_of_getElem? (i := 123) (by decide +kernel)
theorem w_n7 : Cond.methodLinkNest RX1 11 yX0_init "NullKinds" ∈ lw_tbl := List.mem_of_getElem? (i := 148) (by decide +kernel)
abbrev w_N5 (U : State) : Prop := va_Nw (.methodLinkNest RX5 11 yX3_init "NullKinds") U ∧ va_Nw (.methodLinkNest RX5 20 yX4_init "NullKinds") U ∧ va_Nw (.methodLinkNest RX1 11 yX0_init "NullKinds") U
theorem w_N5s : ∀ U U' : State, U.vm = U'.vm → w_N5 U → w_N5 U' := fun _ _ hv h => ⟨va_Nw.same rfl hv h.1, va_Nw.same rfl hv h.2.1, va_Nw.same rfl hv h.2.2⟩
theorem w_N5w {s U : State} (hW : s.WarmedH U.vm) (h : w_N5 s) : w_N5 U := ⟨va_Nw.warmM hW h.1, va_Nw.warmM hW h.2.1, va_Nw.warmM hW h.2.2⟩
theorem w_N5o {s : State} {b : Nat} (hts : ∀ w ∈ lw_tbl, w.before #[Value.ref b] s = true) : w_N5 s := ⟨va_Nw.of rfl (hts _ w_n5), va_Nw.of rfl (hts _ w_n6), va_Nw.of rfl (hts _ w_n7)⟩
set_option maxHeartbeats 4000000 in
set_option maxRecDepth 100000 in
theorem whole_start {p : Program} {e : Env} {s : State} {m : MethodId} {below : List Frame} {meth : Method} {c : Code} (l : Launch) (hl0 : l.stackTraces = false) {b L : Nat} {xs : Nat → Int32} (hL : L ≤ 3072) (C0 : lw_At p s m meth c b L xs) : W p l e room_1 s m #[Value.ref b] below meth c s.heap [] 0 0 (lw_Z below #[Value.ref b] s) (entryFrame m ([Value.ref b] : List Value).toArray 7) := by
  obtain ⟨hx, hb, hr, hml, hown, hts, hX, hbl, hlocks, hgv⟩ := C0
  have hown : s.vm.findClass RL = some m.cls := hown
  have hg : ∀ w ∈ m_gws, w.before #[Value.ref b] s = true := fun w h => hts w (List.mem_filter.mp h).1
  obtain ⟨D, cI, cZ, hK⟩ := st_K hg
  obtain ⟨st, kS, kV, sa, hSN, hXN⟩ := s_ex hts hgv
  have hA : ∀ q, s.heap.size ≤ q → l_A s q := fun _ h => h
  have hN5 : w_N5 s := w_N5o hts
  have hC : CallFix p m c code 7 s #[Value.ref b] lw_tbl RL := ⟨hx, hb, hml, hown, hts⟩
  have hl := lv_entry ([.ref b]) (n := 7) (Nat.le_of_ble_eq_true rfl)
  rw [lg_entry_eq]
  generalize (lg_sl ([.ref b]) ++ List.replicate (7 - (lg_sl ([.ref b])).length) Slot.unset).toArray = ls at hl ⊢
  have hl : lv_has ls 7 [(0, .ref b)] := hl
  have hP0 : va_P D vwCl [] s.heap := fun k q h => by cases h
  have hD0 : va_D (l_A s) [] := ⟨fun i j p q h => (by cases h), fun k q h => (by cases h)⟩
  refine va_new (ci := 5) (fs := q_f5) (C := RX5) (T := TX5) (N := 4) hx hb hg (m_uws (c := 5) (by decide)) (m_ty 5) (m_tyok (c := 5) (by decide)) hown (hg _ w_n1) (hg _ q_is5) (hg _ q_in5) hK hP0 hD0 va_S.rf hA rfl q_d5 (by show _ ≤ 1068; omega) (by show _ ≤ 21951; omega) w_0 (fun b5 H hP hD hS => ?_)
  have hP : va_P D vwCl [(b5, .inr (5, q_f5))] H := hP
  have hD : va_D (l_A s) [(b5, .inr (5, q_f5))] := hD
  refine W.widen (k := 1) (n := 4) (by omega) (by omega) ?_
  refine lv_dup hx hb w_3 rfl ?_
  have hFc := va_free (wc := [(b5, .inr (5, q_f5))]) hD hS hA [0] rfl
  refine va_callv (va_runI (As := []) (rest := [.ref b5]) hC (c_X5_init l D cI cZ b5 H.size) (cwI 0 hts (w_good (jallc q_kw5 jself)) rfl rfl rfl (hg _ q_in5) (hg _ w_n3) (hg _ q_im5) rfl (by decide +kernel) ⟨Nat.le_of_ble_eq_true rfl, Nat.le_of_ble_eq_true rfl⟩) ⟨q_blind w_N5s, fun U hU hW => ⟨rfl, by rw [hU], by rw [hU]; exact hP, va_K.moved hW.alike hK, hD.weaken (fun _ _ _ _ => trivial), w_N5w hW hN5⟩⟩ rfl rfl hl.1 rfl (lv_room (Nat.le_of_ble_eq_true rfl)) w_4 ⟨by show _ ≤ 1068; omega, by show _ ≤ 21951; omega⟩) hS (fun q _ h => hFc q h) hFc (fun u t H1 locs ht hvm _ hB hz1 hk1 hS => ?_)
  obtain ⟨hP1, hK1, hD1⟩ := hB
  rw [ht] at hP1
  have hD1 : va_D (l_A s) (q_w5 cI cZ b5 u) := hD1.weaken (fun k q _ hh => hFc q.1 hh)
  refine W.widen (k := 23) (n := 1574) (by omega) (by omega) ?_
  refine lv_astore_n (lv' := [(1, .ref b5), (0, .ref b)]) hx hb w_7 rfl hl (by decide) rfl (fun ls hl => ?_)
  refine va_new (ci := 6) (fs := q_f6) (C := RX6) (T := TX6) (N := 31) hx hb hg (m_uws (c := 6) (by decide)) (m_ty 6) (m_tyok (c := 6) (by decide)) hown (hg _ w_n2) (hg _ q_is6) (hg _ q_in6) hK hP1 hD1 hS hA rfl q_d6 (by show _ ≤ 1068; omega) (by show _ ≤ 21951; omega) w_8 (fun b6 H2 hP2 hD2 hS => ?_)
  refine W.widen (k := 24) (n := 1605) (by omega) (by omega) ?_
  refine lv_dup hx hb w_11 rfl ?_
  have hPc := hP2.sub (ws' := [(b6, .inr (6, q_f6))]) [23] rfl
  have hDc := hD2.sub (ws' := [(b6, .inr (6, q_f6))]) [23] (by decide) rfl
  have hFc := va_free (wc := [(b6, .inr (6, q_f6))]) hD2 hS hA [23] rfl
  refine va_callv (va_runI (As := []) (rest := [.ref b6]) hC (c_X6_init l D cI cZ b6 H2.size) (cwI 0 hts (w_good (jallc q_kw6 jself)) rfl rfl rfl (hg _ q_in6) (hg _ w_n4) (hg _ q_im6) rfl (by decide +kernel) ⟨Nat.le_of_ble_eq_true rfl, Nat.le_of_ble_eq_true rfl⟩) ⟨q_blind (fun _ _ _ h => h), fun U hU hW => ⟨rfl, by rw [hU], by rw [hU]; exact hPc, va_K.moved hW.alike hK, hDc.weaken (fun _ _ _ _ => trivial), trivial⟩⟩ rfl rfl hl.1 rfl (lv_room (Nat.le_of_ble_eq_true rfl)) w_12 ⟨by show _ ≤ 1068; omega, by show _ ≤ 21951; omega⟩) hS (fun q _ h => hFc q h) hFc (fun v t3 H3 locs3 ht3 hvm3 _ hB hz3 hk3 hS => ?_)
  obtain ⟨hP3, hK3, hD3⟩ := hB
  rw [ht3] at hP3
  obtain ⟨hP, hD⟩ := va_join (wr := q_w5 cI cZ b5 u) (w1 := q_w6 cI cZ b6 v) hP2 hD2 [23] [0, 1, 2, 3, 4, 5, 6, 7, 8, 9, 10, 11, 12, 13, 14, 15, 16, 17, 18, 19, 20, 21, 22] rfl rfl (by decide) (by decide) hk3 hFc hP3 hD3
  refine W.widen (k := 42) (n := 13752) (by omega) (by omega) ?_
  refine lv_astore_n (lv' := [(2, .ref b6), (1, .ref b5), (0, .ref b)]) hx hb w_15 rfl hl (by decide) rfl (fun ls hl => ?_)
  refine lv_iconst (v := 1) hx hb w_16 (by decide) ?_
  refine va_newa (atype := .long) (ty := .long) (N' := 1) (a0 := (1, .inr (.inl (fun _ => 0)))) hx hb (hg _ q_a_long) rfl hK hP hD hS hA (fun cA => rfl) (by decide) rfl (by decide) (by show _ ≤ 1068; omega) (by show _ ≤ 21951; omega) w_17 (fun o cJ H4 hK4 hP4 hD4 hS4 => ?_)
  refine W.widen (k := 43) (n := 13753) (by omega) (by omega) ?_
  refine lv_astore_n (lv' := [(3, .ref o), (2, .ref b6), (1, .ref b5), (0, .ref b)]) hx hb w_19 rfl hl (by decide) rfl (fun ls hl => ?_)
  refine lv_iconst (v := nI (6 * 0)) hx hb w_20 (by decide) ?_
  refine lv_istore (lv' := [(4, .int (nI (6 * 0))), (3, .ref o), (2, .ref b6), (1, .ref b5), (0, .ref b)]) hx hb w_21 hl (by decide) rfl (fun ls hl => ?_)
  have hP5 : va_P D vwCl (l_w (m_adr (st_ob b5 b6 u) (st_ar u v) st kS kV) cI cZ cJ st_S o (fun _ => 0)) H4 := hP4.sub st_is rfl
  have hD5 : va_D (l_A s) (l_w (m_adr (st_ob b5 b6 u) (st_ar u v) st kS kV) cI cZ cJ st_S o (fun _ => 0)) := hD4.sub st_is (by decide) st_wf
  obtain ⟨hSt, hNs⟩ := hSN (st_ob b5 b6 u) (st_ar u v)
  exact l_loop (D := D) (ad := m_adr (st_ob b5 b6 u) (st_ar u v) st kS kV) (cI := cI) (cZ := cZ) (cJ := cJ) (sa := sa) hl0 hr hlocks ⟨⟨hC, fun w h => (List.mem_filter.mp h).1, hK, hSt, hNs, hA⟩, hX, hbl, hK4, hXN, hL⟩ 513 0 H4 _ st_S (fun _ => 0) ls rfl (by omega) ⟨hP5, hD5, hS4⟩ st_inv hl
