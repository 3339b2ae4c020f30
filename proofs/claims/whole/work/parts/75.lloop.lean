section LL
variable {p : Program} {l : Launch} {e : Env} {s : State} {m : MethodId} {below : List Frame} {meth : Method} {c : Code}
variable {D : va_G} {ad : Nat → Nat} {cI cZ cJ : ClassId} {o sa : Nat} {b L : Nat} {xs : Nat → Int32}
set_option maxHeartbeats 4000000 in
set_option maxRecDepth 100000 in
theorem l_loop (hl0 : l.stackTraces = false) (hr : meth.sig.returnType = ret) (hlocks : meth.locks = false) (B : l_b p s m c b L xs D ad cI cZ cJ sa) : ∀ (k n : Nat) (H : Heap) (locs : List Loc) (S : mS) (g : Nat → Int64) (ls : Array Slot), n + k = 513 → 6 * n ≤ L → l_S D ad cI cZ cJ (l_A s) s H locs S o g → Inv n S → l_at ls ad b o n →
    W p l e room_1 s m #[Value.ref b] below meth c H locs (43 + n) (13753 + 6 * n) (lw_Z below #[Value.ref b] s) (F0 m 23 ls []) := by
  intro k
  induction k with
  | zero =>
    intro n H locs S g ls hk hn hS hI hl
    have := B.2.2.2.2.2
    omega
  | succ k ih =>
  intro n H locs S g ls hk hn hS hI hl
  have hx := B.1.1.1
  have hb := B.1.1.2.1
  obtain ⟨-, hX, hbl, -, -, hL⟩ := id B
  have hR : 43 + n + 1 ≤ 1068 ∧ 13753 + 6 * n + 6 ≤ 21951 := by omega
  refine lv_iload hx hb w_23 (lv_at hl 0 rfl) ?_
  refine lv_aload_n hx hb w_25 rfl (lv_at hl 4 rfl) ?_
  refine va_slen hx hb hX hbl (A := l_A s) (fun h => absurd hbl (Nat.not_lt.mpr h)) hS.2.2 w_26 ?_
  refine lv_bipush (v := 6) hx hb w_27 (by decide) ?_
  refine lv_isub hx hb w_29 ?_
  refine lv_icmp_gt (tgt := 544) hx hb w_30 (by decide) (fun h => ?_) (fun h => ?_)
  · refine lv_iconst (v := 1) hx hb w_544 (by decide) ?_
    refine va_forget hS.2.2.2.2 ?_
    refine W.widen (k := 1068) (n := 21951) (by omega) (by omega) ?_
    exact lw_ret hx hb hr hlocks w_545
  · have hn6 : 6 * n + 6 ≤ L := by
      have h : ¬ nI L - 6 < nI (6 * n) := h
      rw [sub6 hL (by omega)] at h
      omega
    have K : ∀ (H1 : Heap) (locs1 : List Loc) (S' : mS) (g' : Nat → Int64) (ls' : Array Slot), l_S D ad cI cZ cJ (l_A s) s H1 locs1 S' o g' → Inv (n + 1) S' → l_at ls' ad b o n → W p l e room_1 s m #[Value.ref b] below meth c H1 locs1 (43 + n + 1) (13753 + 6 * n + 6) (lw_Z below #[Value.ref b] s) (F0 m 538 ls' []) := by
      intro H1 locs1 S' g' ls' h1 h2 h3
      refine lv_iinc (k := 0) (v := nI (6 * (n + 1))) (lv' := [(4, .int (nI (6 * (n + 1)))), (3, .ref o), (2, .ref (ad 6)), (1, .ref (ad 5)), (0, .ref b)]) hx hb w_538 h3 rfl (by rw [show Int32.ofInt 6 = nI 6 from rfl, nI_add]; rfl) (by decide) rfl (fun ls2 hl2 => ?_)
      refine lv_goto (tgt := 23) hx hb w_541 (by decide) ?_
      exact ih (n + 1) H1 locs1 S' g' ls2 (by omega) (by omega) h1 h2 hl2
    refine l_rd0 B hS hl hn6 (fun t ht => ?_)
    have K0 : W p l e room_1 s m #[Value.ref b] below meth c H locs (43 + n) (13753 + 6 * n) (lw_Z below #[Value.ref b] s) (F0 m 538 ls []) := W.widen (k := 43 + n + 1) (n := 13753 + 6 * n + 6) (by omega) (by omega) (K H locs S g ls hS hI.s hl)
    match t, ht with
    | 0, _ => exact lv_tableIn (off := 68) (tgt := 108) hx hb w_40 (by decide) (by decide) (by decide +kernel) (by decide) (W.widen (k := 43 + n + 1) (n := 13753 + 6 * n + 6) (by omega) (by omega) (l_c_step B hn6 hS hI hl hR (fun H1 locs1 S' h1 h2 => K H1 locs1 S' g ls h1 h2 hl)))
    | 1, _ => exact lv_tableIn (off := 141) (tgt := 181) hx hb w_40 (by decide) (by decide) (by decide +kernel) (by decide) (W.widen (k := 43 + n + 1) (n := 13753 + 6 * n + 6) (by omega) (by omega) (l_c_clear B hn6 hS hI hl hR (fun H1 locs1 S' h1 h2 => K H1 locs1 S' g ls h1 h2 hl)))
    | 2, _ => exact lv_tableIn (off := 154) (tgt := 194) hx hb w_40 (by decide) (by decide) (by decide +kernel) (by decide) (W.widen (k := 43 + n + 1) (n := 13753 + 6 * n + 6) (by omega) (by omega) (l_c_run B hn6 hS hI hl hR (fun H1 locs1 S' h1 h2 => K H1 locs1 S' g ls h1 h2 hl)))
    | 3, _ => exact lv_tableIn (off := 191) (tgt := 231) hx hb w_40 (by decide) (by decide) (by decide +kernel) (by decide) (W.widen (k := 43 + n + 1) (n := 13753 + 6 * n + 6) (by omega) (by omega) (l_c_ran B hn6 hS hI hl hR (fun H1 locs1 S' h1 h2 => K H1 locs1 S' g ls h1 h2 hl)))
    | 4, _ => exact lv_tableIn (off := 217) (tgt := 257) hx hb w_40 (by decide) (by decide) (by decide +kernel) (by decide) (W.widen (k := 43 + n + 1) (n := 13753 + 6 * n + 6) (by omega) (by omega) (l_c_variable B hn6 hS hI hl hR (fun H1 locs1 S' h1 h2 => K H1 locs1 S' g ls h1 h2 hl)))
    | 5, _ => exact lv_tableIn (off := 254) (tgt := 294) hx hb w_40 (by decide) (by decide) (by decide +kernel) (by decide) (W.widen (k := 43 + n + 1) (n := 13753 + 6 * n + 6) (by omega) (by omega) (l_c_number B hn6 hS hI hl hR (fun H1 locs1 S' h1 h2 => K H1 locs1 S' g ls h1 h2 hl)))
    | 6, _ => exact lv_tableIn (off := 280) (tgt := 320) hx hb w_40 (by decide) (by decide) (by decide +kernel) (by decide) (W.widen (k := 43 + n + 1) (n := 13753 + 6 * n + 6) (by omega) (by omega) (l_c_seen B hn6 hS hI hl hR (fun H1 locs1 S' h1 h2 => K H1 locs1 S' g ls h1 h2 hl)))
    | 7, _ => exact lv_tableIn (off := 317) (tgt := 357) hx hb w_40 (by decide) (by decide) (by decide +kernel) (by decide) (W.widen (k := 43 + n + 1) (n := 13753 + 6 * n + 6) (by omega) (by omega) (l_c_had B hn6 hS hI hl hR (fun H1 locs1 S' h1 h2 => K H1 locs1 S' g ls h1 h2 hl)))
    | 8, _ => exact lv_tableIn (off := 342) (tgt := 382) hx hb w_40 (by decide) (by decide) (by decide +kernel) (by decide) (W.widen (k := 43 + n + 1) (n := 13753 + 6 * n + 6) (by omega) (by omega) (l_c_may B hn6 hS hI hl hR (fun H1 locs1 S' h1 h2 => K H1 locs1 S' g ls h1 h2 hl)))
    | 9, _ => exact lv_tableIn (off := 379) (tgt := 419) hx hb w_40 (by decide) (by decide) (by decide +kernel) (by decide) (W.widen (k := 43 + n + 1) (n := 13753 + 6 * n + 6) (by omega) (by omega) (l_c_faults B hn6 hS hI hl hR (fun H1 locs1 S' h1 h2 => K H1 locs1 S' g ls h1 h2 hl)))
    | 10, _ => exact lv_tableIn (off := 404) (tgt := 444) hx hb w_40 (by decide) (by decide) (by decide +kernel) (by decide) (W.widen (k := 43 + n + 1) (n := 13753 + 6 * n + 6) (by omega) (by omega) (l_c_cast B hn6 hS hI hl hR (fun H1 locs1 S' h1 h2 => K H1 locs1 S' g ls h1 h2 hl)))
    | 11, _ => exact lv_tableIn (off := 429) (tgt := 469) hx hb w_40 (by decide) (by decide) (by decide +kernel) (by decide) (W.widen (k := 43 + n + 1) (n := 13753 + 6 * n + 6) (by omega) (by omega) (l_c_all B hn6 hS hI hl hR (fun H1 locs1 S' h1 h2 => K H1 locs1 S' g ls h1 h2 hl)))
    | 12, _ => exact lv_tableIn (off := 454) (tgt := 494) hx hb w_40 (by decide) (by decide) (by decide +kernel) (by decide) (l_c_mean hl0 B hn6 hS hI hl hR K)
    | 13, _ => exact lv_tableOut (tgt := 538) hx hb w_40 (Or.inr (by decide)) (by decide) K0
    | 14, _ => exact lv_tableOut (tgt := 538) hx hb w_40 (Or.inr (by decide)) (by decide) K0
    | 15, _ => exact lv_tableOut (tgt := 538) hx hb w_40 (Or.inr (by decide)) (by decide) K0
    | t + 16, ht => exact absurd ht (by omega)
end LL
