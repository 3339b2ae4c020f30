theorem w_m1 : Cond.methodLink RL 71 yL_mean ∈ m_gws := m_gw_in (k := 728) (by decide +kernel)
theorem w_m2 : Cond.static yL_mean ∈ m_gws := m_gw_in (k := 729) (by decide +kernel)
theorem w_m3 : Cond.initialized yL_mean.cls ∈ m_gws := m_gw_in (k := 60) (by decide +kernel)
theorem w_good {ws : List Cond} (h : ∀ w ∈ ws, w ∈ m_gws) : GoodIn lw_tbl ws := fun w hw => ⟨(List.mem_filter.mp (h w hw)).1, good_of_word (List.mem_filter.mp (h w hw)).2⟩
theorem w_gm : ∀ w ∈ va_wsS RL 71 yL_mean (x_kl :: m_gws), w ∈ m_gws := jall3 w_m1 w_m2 w_m3 (jallc x_klw jself)
section LCM
variable {p : Program} {l : Launch} {e : Env} {s : State} {m : MethodId} {below : List Frame} {meth : Method} {c : Code} {H : Heap} {locs : List Loc} {cells slots : Nat} {Q : State → Prop}
variable {D : va_G} {ad : Nat → Nat} {cI cZ cJ : ClassId} {pc : Nat} {ls : Array Slot} {S : mS} {o sa : Nat} {g : Nat → Int64} {b L n : Nat} {xs : Nat → Int32} {rest : List Value}
set_option maxHeartbeats 4000000 in
set_option maxRecDepth 100000 in
theorem l_c_mean (hl0 : l.stackTraces = false) (B : l_b p s m c b L xs D ad cI cZ cJ sa) (hn : 6 * n + 6 ≤ L) (hS : l_S D ad cI cZ cJ (l_A s) s H locs S o g) (hI : Inv n S) (hl : l_at ls ad b o n) (hR : cells + 1 ≤ 1068 ∧ slots + 6 ≤ 21951)
    (kk : ∀ (H1 : Heap) (locs1 : List Loc) (S' : mS) (g' : Nat → Int64) (ls' : Array Slot), l_S D ad cI cZ cJ (l_A s) s H1 locs1 S' o g' → Inv (n + 1) S' → l_at ls' ad b o n → W p l e room_1 s m #[Value.ref b] below meth c H1 locs1 (cells + 1) (slots + 6) Q (F0 m 538 ls' [])) : W p l e room_1 s m #[Value.ref b] below meth c H locs cells slots Q (F0 m 494 ls []) := by
  have hx := B.1.1.1
  have hb := B.1.1.2.1
  obtain ⟨F, -, -, hKl, hXN, hL⟩ := id B
  obtain ⟨hC, -, -, hSt, hNs, hA⟩ := F
  obtain ⟨hP, hD, hSS⟩ := hS
  have hLn : n ≤ 512 := by omega
  have hFr : ∀ q, va_A (l_w ad cI cZ cJ S o g) H.size q → l_A s q := by
    intro q h
    rcases h with ⟨k, e9, h⟩ | h
    · exact hD.2 k (q, e9) h
    · exact Nat.le_trans hSS.1 h
  refine lv_aload_n hx hb w_494 rfl (lv_at hl 3 rfl) ?_
  refine lv_aload_n hx hb w_495 rfl (lv_at hl 1 rfl) ?_
  refine va_calli (vx_runSW (As := [.ref (ad 5), .ref o]) (rest := []) hC (c_L_mean l hl0 D ad cI cZ cJ S o g H.size sa) (vx_cwSW (index := 71) 2 hC.2.2.2.2 (w_good w_gm) rfl rfl rfl (by decide +kernel) ⟨by show 7 + 1 ≤ 10; decide, by show 8 + (3 + 11) + 103 ≤ 374; decide⟩) ⟨l_blind, fun U hU hW => ⟨rfl, by rw [hU], by rw [hU]; exact hP, va_K.moved hW.alike hKl, hD.weaken (fun _ _ _ _ => trivial), by rw [hU]; exact m_St.moved hW.alike ((hSt.kept hSS.2.1).narrow hFr), m_Ns.warm hW hNs, by rw [hU]; exact x_N.warm hW ((hXN.kept hSS.2.1).narrow hFr)⟩⟩ rfl rfl hl.1 rfl (lv_room (Nat.zero_le _)) w_496 hR) hSS (fun q _ h => hFr q h) (fun q h => hFr q h) (fun r u t H1 locs1 ht hvm hpo hB hz hk hS1 => ?_)
  obtain ⟨hP1, hK1, hD1⟩ := hB
  rw [ht] at hP1
  have Z1 : l_S D ad cI cZ cJ (l_A s) s H1 locs1 S o u := ⟨hP1, hD1.weaken (fun k q _ hh => hFr q.1 hh), hS1⟩
  refine lv_istore (lv' := [(5, .int r), (4, .int (nI (6 * n))), (3, .ref o), (2, .ref (ad 6)), (1, .ref (ad 5)), (0, .ref b)]) hx hb w_499 hl (by decide) rfl (fun ls1 hl1 => ?_)
  have hl1a : l_at ls1 ad b o n := lv_sub hl1 [1, 2, 3, 4, 5] rfl
  refine lv_aload_n hx hb w_501 rfl (lv_at hl1 3 rfl) ?_
  have hI1 := hI.s
  obtain ⟨n0, -, ⟨-, -, r0, t0, q1, q2, q3, q4, q5, q6⟩, -⟩ := id hI
  refine l_call5 (M := n_X6_mean) (as := []) (rest := []) B Z1 hl1a (s_D_mean (Q := fun v S2 => ∃ x : Int32, v = some (.int x) ∧ Inv (n + 1) S2 ∧ S2.1 240 = r ∧ (r = 0 → u 0 = x.toInt64)) (fun z => ?_) (fun z => ?_)) (by decide) rfl (Nat.le_of_ble_eq_true rfl) w_k76 rfl (by decide +kernel) (Nat.zero_le _) hR w_502 (fun v S2 H2 locs2 hq Z2 => ?_)
  · rcases hpo with ⟨e0, e1⟩ | ⟨e0, -⟩
    · exact ⟨0, rfl, hI1.th.th, by rw [e1]; rfl, fun y => by rw [e1] at y; exact absurd y (by decide)⟩
    · exact absurd (by rw [q1, ← q2]; exact z) e0
  · rcases hpo with ⟨e0, -⟩ | ⟨e0, e1, e2⟩
    · exact absurd (by rw [q2, ← q1]; exact e0) z
    · refine ⟨_, rfl, hI1.th, by rw [e1]; rfl, fun _ => ?_⟩
      rw [e2, q4, q2, q3, q1]
      rw [q2] at z
      rw [mean_eq (by omega) (by omega) z]
  obtain ⟨x, rfl, hI2, h240, hx0⟩ := hq
  refine lv_istore (lv' := [(6, .int x), (5, .int r), (4, .int (nI (6 * n))), (3, .ref o), (2, .ref (ad 6)), (1, .ref (ad 5)), (0, .ref b)]) hx hb w_505 hl1 (by decide) rfl (fun ls2 hl2 => ?_)
  have hl2a : l_at ls2 ad b o n := lv_sub hl2 [2, 3, 4, 5, 6] rfl
  refine lv_aload_n hx hb w_507 rfl (lv_at hl2 4 rfl) ?_
  refine l_call5 (M := n_X6_thrown) (as := []) (rest := []) B Z2 hl2a (s_D_thrown (Q := fun v S3 => v = some (.int r) ∧ S3 = S2) ⟨by rw [h240], rfl⟩) (by decide) rfl (Nat.le_of_ble_eq_true rfl) w_k77 rfl (by decide +kernel) (Nat.zero_le _) hR w_508 (fun v S3 H3 locs3 hq Z3 => ?_)
  obtain ⟨rfl, rfl⟩ := hq
  refine lv_iload hx hb w_511 (lv_at hl2 1 rfl) ?_
  refine lv_icmp_eq (tgt := 518) hx hb w_513 (by decide) (fun _ => ?_) (fun h => absurd rfl h)
  have K : W p l e room_1 s m #[Value.ref b] below meth c H3 locs3 (cells + 1) (slots + 6) Q (F0 m 535 ls2 []) := lv_goto (tgt := 538) hx hb w_535 (by decide) (kk H3 locs3 S3 u ls2 Z3 hI2 hl2a)
  refine lv_iload hx hb w_518 (lv_at hl2 1 rfl) ?_
  refine lv_if_ne (tgt := 535) hx hb w_520 (by decide) (fun _ => K) (fun hr0 => ?_)
  refine lv_aload_n hx hb w_523 rfl (lv_at hl2 3 rfl) ?_
  refine lv_iconst (v := 0) hx hb w_524 (by decide) ?_
  refine va_lald hx hb hKl Z3.1 42 2 l_w_out rfl (show vp_in 0 1 by unfold vp_in; decide) w_525 ?_
  refine lv_iload hx hb w_526 (lv_at hl2 0 rfl) ?_
  refine lv_i2l hx hb w_528 rfl ?_
  refine W.lcmp hx hb w_529 ?_
  exact lv_if_eq (tgt := 535) hx hb w_530 (by decide) (fun _ => K) (fun h => absurd (l_cmp (hx0 hr0)) h)
end LCM
