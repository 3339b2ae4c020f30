theorem x_m_0 : decode cX5_mean 0 = .ok (.aload_n 0, 1) := by decide +kernel
theorem x_m_1 : decode cX5_mean 1 = .ok (.getfield 21, 3) := by decide +kernel
theorem x_m_4 : decode cX5_mean 4 = .ok (.invokevirtual 111, 3) := by decide +kernel
theorem x_m_7 : decode cX5_mean 7 = .ok (.istore_n 1, 1) := by decide +kernel
theorem x_m_8 : decode cX5_mean 8 = .ok (.iload_n 1, 1) := by decide +kernel
theorem x_m_9 : decode cX5_mean 9 = .ok (.ifCond .ne 13, 3) := by decide +kernel
theorem x_m_12 : decode cX5_mean 12 = .ok (.new 114, 3) := by decide +kernel
theorem x_m_15 : decode cX5_mean 15 = .ok (.dup, 1) := by decide +kernel
theorem x_m_16 : decode cX5_mean 16 = .ok (.ldc 116, 2) := by decide +kernel
theorem x_m_18 : decode cX5_mean 18 = .ok (.invokespecial 118, 3) := by decide +kernel
theorem x_m_21 : decode cX5_mean 21 = .ok (.athrow, 1) := by decide +kernel
theorem x_m_22 : decode cX5_mean 22 = .ok (.aload_n 0, 1) := by decide +kernel
theorem x_m_23 : decode cX5_mean 23 = .ok (.getfield 21, 3) := by decide +kernel
theorem x_m_26 : decode cX5_mean 26 = .ok (.invokevirtual 121, 3) := by decide +kernel
theorem x_m_29 : decode cX5_mean 29 = .ok (.iload_n 1, 1) := by decide +kernel
theorem x_m_30 : decode cX5_mean 30 = .ok (.idiv, 1) := by decide +kernel
theorem x_m_31 : decode cX5_mean 31 = .ok (.ireturn, 1) := by decide +kernel
theorem x_l_0 : decode cL_mean 0 = .ok (.aload_n 1, 1) := by decide +kernel
theorem x_l_1 : decode cL_mean 1 = .ok (.iconst 0, 1) := by decide +kernel
theorem x_l_2 : decode cL_mean 2 = .ok (.aload_n 0, 1) := by decide +kernel
theorem x_l_3 : decode cL_mean 3 = .ok (.invokevirtual 7, 3) := by decide +kernel
theorem x_l_6 : decode cL_mean 6 = .ok (.i2l, 1) := by decide +kernel
theorem x_l_7 : decode cL_mean 7 = .ok (.lastore, 1) := by decide +kernel
theorem x_l_8 : decode cL_mean 8 = .ok (.goto 6, 3) := by decide +kernel
theorem x_l_11 : decode cL_mean 11 = .ok (.astore_n 2, 1) := by decide +kernel
theorem x_l_12 : decode cL_mean 12 = .ok (.iconst 1, 1) := by decide +kernel
theorem x_l_13 : decode cL_mean 13 = .ok (.ireturn, 1) := by decide +kernel
theorem x_l_14 : decode cL_mean 14 = .ok (.iconst 0, 1) := by decide +kernel
theorem x_l_15 : decode cL_mean 15 = .ok (.ireturn, 1) := by decide +kernel
abbrev x_k : Cond := .code yX5_mean cX5_mean 2 (some .int)
theorem x_kw : x_k ∈ m_gws := m_gw_in (k := 735) (by decide +kernel)
theorem x_r1 : Cond.methodLink RX5 111 (m_y n_X4_runs) ∈ m_gws := m_gw_in (k := 736) (by decide +kernel)
theorem x_r2 : Cond.methodLink RX5 121 (m_y n_X4_stepsDone) ∈ m_gws := m_gw_in (k := 805) (by decide +kernel)
theorem x_r3 : Cond.methodLink RL 7 yX5_mean ∈ m_gws := m_gw_in (k := 732) (by decide +kernel)
theorem x_r4 : Cond.instanceMethod yX5_mean ∈ m_gws := m_gw_in (k := 733) (by decide +kernel)
theorem x_r5 : Cond.selects RX5 yX5_mean yX5_mean ∈ m_gws := m_gw_in (k := 734) (by decide +kernel)
theorem x_r6 : Cond.classLink RL 13 x_E ∈ m_gws := m_gw_in (k := 731) (by decide +kernel)
abbrev x_hh : List (Nat × Nat × Nat × Nat) := [(0, 8, 11, 13)]
abbrev x_kl : Cond := .codeWith yL_mean cL_mean 3 (some .int) x_hh
theorem x_klw : x_kl ∈ m_gws := m_gw_in (k := 730) (by decide +kernel)
def x_Pc (D : va_G) (ad : Nat → Nat) (cI cZ : ClassId) (S : mS) (sz sa : Nat) : Array Value → State → Prop := va_Pc [.ref (ad 5)] (fun U => U.heap.size = sz ∧ va_P D vwCl (m_w ad cI cZ S) U.heap ∧ va_K D vwCl (m_tys cI cZ) U ∧ va_D (fun _ => True) (m_w ad cI cZ S) ∧ m_St ad (va_A (m_w ad cI cZ S) sz) U U.heap ∧ m_Ns ad U ∧ x_N sa (va_A (m_w ad cI cZ S) sz) U U.heap)
theorem x_blind {D : va_G} {ad : Nat → Nat} {cI cZ : ClassId} {S : mS} {sz sa : Nat} : FrameBlind (x_Pc D ad cI cZ S sz sa) := by
  intro a U g mk q
  obtain ⟨q0, q1, qP, qK, qD, qS, qN, qX⟩ := q
  exact ⟨q0, q1, qP, va_K.moved (u := U) (U := U.calling g mk a) (Vm.Alike.refl U.vm) qK, qD, m_St.moved (u := U) (U := U.calling g mk a) (Vm.Alike.refl U.vm) qS, m_Ns.same (u := U) (U := U.calling g mk a) rfl qN, x_N.same (u := U) (U := U.calling g mk a) rfl qX⟩
abbrev x_B (D : va_G) (ad : Nat → Nat) (cI cZ : ClassId) (A : Nat → Prop) (S : mS) (t : State) : Prop := va_P D vwCl (m_w ad cI cZ S) t.heap ∧ va_K D vwCl (m_tys cI cZ) t ∧ va_D A (m_w ad cI cZ S)
set_option maxHeartbeats 4000000 in
set_option maxRecDepth 100000 in
theorem c_X5_mean (l : Launch) (hl0 : l.stackTraces = false) (D : va_G) (ad : Nat → Nat) (cI cZ : ClassId) (S : mS) (sz sa : Nat) : vx_Met l yX5_mean (x_k :: m_gws) ({ frames := 6, cells := 1, slots := 6, locals := 82 }) (x_Pc D ad cI cZ S sz sa)
    (va_Qi (fun (r : Int32) (u : mS) => u = S ∧ ¬ S.1 163 = 0 ∧ r = S.1 162 / S.1 163) (x_B D ad cI cZ (va_A (m_w ad cI cZ S) sz)) (va_A (m_w ad cI cZ S) sz))
    (vx_X (fun u : mS => u = S ∧ S.1 163 = 0) (fun E u t => E = x_E ∧ x_B D ad cI cZ (va_A (m_w ad cI cZ S) sz) u t) (va_A (m_w ad cI cZ S) sz)) 1 6 (va_A (m_w ad cI cZ S) sz) := by
  refine vx_ofW (cc := cX5_mean) (maxL := 2) (ret := some .int) (by decide) rfl ?_
  intro p e s m args below meth c s₁ B hml htab hv
  obtain ⟨rfl, hsz, hP, hK, hD0, hSt, hNs, hX⟩ := hv
  have hx := B.exec
  have hb := B.bytes
  have hr := B.returns
  have hts := atoms_spec (ws := x_k :: m_gws) B.pre
  have hown : s.vm.findClass RX5 = some m.cls := findClass_of_methodNamed B.named
  have hlocks := B.notSynchronized
  subst hsz
  have hD := hD0.self (sz := s.heap.size)
  generalize hAe : va_A (m_w ad cI cZ S) s.heap.size = A at hD hSt hX ⊢
  have hA : ∀ q : Nat, s.heap.size ≤ q → A q := fun q h => by rw [← hAe]; exact Or.inr h
  have F : z_F p s m ([.ref (ad 5)] : List Value).toArray c cX5_mean 2 (x_k :: m_gws) RX5 D ad cI cZ A := ⟨⟨hx, hb, hml, hown, hts⟩, fun w h => List.mem_cons_of_mem _ h, hK, hSt, hNs, hA⟩
  have Z : z_S D ad cI cZ A s s.heap [] S := ⟨hP, hD, va_S.rf⟩
  have hl := lv_entry ([.ref (ad 5)]) (n := 2) (Nat.le_of_ble_eq_true rfl)
  rw [lg_entry_eq]
  generalize (lg_sl ([.ref (ad 5)]) ++ List.replicate (2 - (lg_sl ([.ref (ad 5)])).length) Slot.unset).toArray = ls at hl ⊢
  have hl : lv_has ls 2 [(0, .ref (ad 5))] := hl
  refine lv_aload_n hx hb x_m_0 rfl (lv_at hl 0 rfl) ?_
  refine va_get (D := D) (ci := 5) (v := .ref (ad 4)) (C := m_R 5) (T := m_Tt 5) (N := m_nf 5) (ref := (m_Tt 5 1).1) hx hb hts (fun w hw => List.mem_cons_of_mem _ (m_uws (c := 5) (by decide) w hw)) hown hK Z.1 5 (m_w_obj (by decide)) (m_cl (by decide)) 1 (by decide) (hts _ (List.mem_cons_of_mem _ (m_fl_word (o := 5) (ix := 21) (c0 := 5) (k := 1) (by decide +kernel)))) (fun _ h9 => h9) rfl x_m_1 ?_
  refine z_call (M := n_X4_runs) (d := 0) (as := []) (rest := []) F Z (s_W_runs (Q := fun v S' => v = some (.int (S.1 163)) ∧ S' = S) ⟨rfl, rfl⟩) (by decide) rfl (by decide) x_r1 rfl ⟨by show 0 + 1 ≤ 6; decide, Nat.le_of_ble_eq_true rfl⟩ hl.1 (by decide) ⟨Nat.zero_le _, Nat.zero_le _⟩ x_m_4 (fun v S' H1 locs1 _ hq Z1 _ _ => ?_)
  obtain ⟨rfl, rfl⟩ := hq
  refine lv_istore_n (lv' := [(1, .int (S'.1 163)), (0, .ref (ad 5))]) hx hb x_m_7 rfl hl (by decide) rfl (fun ls hl => ?_)
  refine lv_iload_n hx hb x_m_8 rfl (lv_at hl 0 rfl) ?_
  refine lv_if_ne (tgt := 22) hx hb x_m_9 (by decide) (fun hne => ?_) (fun heq => ?_)
  · refine lv_aload_n hx hb x_m_22 rfl (lv_at hl 1 rfl) ?_
    refine va_get (D := D) (ci := 5) (v := .ref (ad 4)) (C := m_R 5) (T := m_Tt 5) (N := m_nf 5) (ref := (m_Tt 5 1).1) hx hb hts (fun w hw => List.mem_cons_of_mem _ (m_uws (c := 5) (by decide) w hw)) hown hK Z1.1 5 (m_w_obj (by decide)) (m_cl (by decide)) 1 (by decide) (hts _ (List.mem_cons_of_mem _ (m_fl_word (o := 5) (ix := 21) (c0 := 5) (k := 1) (by decide +kernel)))) (fun _ h9 => h9) rfl x_m_23 ?_
    refine z_call (M := n_X4_stepsDone) (d := 0) (as := []) (rest := []) F Z1 (s_W_stepsDone (Q := fun v S2 => v = some (.int (S'.1 162)) ∧ S2 = S') ⟨rfl, rfl⟩) (by decide) rfl (by decide) x_r2 rfl ⟨by show 0 + 1 ≤ 6; decide, Nat.le_of_ble_eq_true rfl⟩ hl.1 (by decide) ⟨Nat.zero_le _, Nat.zero_le _⟩ x_m_26 (fun v S2 H2 locs2 _ hq Z2 _ _ => ?_)
    obtain ⟨rfl, rfl⟩ := hq
    refine lv_iload_n hx hb x_m_29 rfl (lv_at hl 0 rfl) ?_
    refine lv_idiv hx hb x_m_30 hne ?_
    obtain ⟨hP2, hD2, hS2⟩ := Z2
    refine W.widen (k := 1) (n := 6) (by omega) (by omega) ?_
    refine vx_ret ?_
    exact W.iret (v := S2.1 162 / S2.1 163) hx hb hr (fun t ht hW => ⟨⟨_, S2, rfl, ⟨rfl, hne, rfl⟩, by rw [ht]; exact hP2, va_K.moved hW.alike hK, hD2⟩, hS2.F ht⟩) hS2.2.2 x_m_31
  · obtain ⟨hP1, hD1, hS1⟩ := Z1
    refine vx_throwS (own := RX5) (cls := x_E) (names := ["java/lang/RuntimeException", "java/lang/Exception"]) (ik := 114) (is := 116) (ic := 118) (sa := sa) (A := A) (text := "no run behind the latest step") hx hb hl0 hown (by decide +kernel) (by decide +kernel) (hts _ (List.mem_cons_of_mem _ x_w1)) (hts _ (List.mem_cons_of_mem _ x_w2)) hX.2.2.1 ?_ x_at3 hX.1 hX.2.1 hS1 ?_ x_m_12 x_m_15 x_m_16 x_m_18 x_m_21 (fun x hx => (htab x hx).elim) (by decide) (by decide) (by decide) (by decide) hlocks ?_ hS1.2.2 (by decide) (by decide)
    · refine vx_hat (B := [Cond.castable x_E x_E, .declares (x_D "java/lang/RuntimeException"), .declares (x_D "java/lang/Exception"), .declares (x_D Bundle.tN)]) (fun w hw => hts _ (List.mem_cons_of_mem _ (List.mem_filter.mpr ⟨x_at1 w hw, (List.mem_filter.mp hw).2⟩))) x_at2 ?_
      obtain ⟨v1, v2, v3, v4⟩ := hX.2.2.2
      exact vx_c (va_Nw.use rfl v1) (vx_c (va_Nw.use rfl v2) (vx_c (va_Nw.use rfl v3) (vx_c (va_Nw.use rfl v4) vx_n)))
    · rw [hml]; exact hl.1
    · intro t hal hz hk
      exact ⟨S', ⟨rfl, heq⟩, ⟨rfl, hP1.kept (fun k q hq => hk q.1 ((hP1 k q hq).lt)), va_K.moved hal hK, hD1⟩, ⟨Nat.le_trans hS1.1 hz, fun q h1 h2 => (hk q (Nat.lt_of_lt_of_le h1 hS1.1)).trans (hS1.2.1 q h1 h2)⟩⟩

