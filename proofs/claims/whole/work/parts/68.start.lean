abbrev s_G : Cond := Jvm.Cond.and given_1 narrow_1
abbrev s_t (g : Nat) : Term := .static "NullKinds" (m_sn g) "[I"
abbrev s_m (i : Nat) : Term := .string "NullKinds$Program" (([31, 43, 45] : List Nat).getD i 0)
theorem s_e0 : ∀ j, j < 11 → Cond.eq (.elem (s_t 500) (.int (Int32.ofNat j))) (.int (m_sv 500 j)) ∈ flatC s_G := by decide +kernel
theorem s_e1 : ∀ j, j < 10 → Cond.eq (.elem (s_t 501) (.int (Int32.ofNat j))) (.int (m_sv 501 j)) ∈ flatC s_G := by decide +kernel
theorem s_e2 : ∀ j, j < 10 → Cond.eq (.elem (s_t 502) (.int (Int32.ofNat j))) (.int (m_sv 502 j)) ∈ flatC s_G := by decide +kernel
theorem s_l0 : Cond.arrayOf (s_t 500) .int ∈ flatC s_G ∧ Cond.eq (.length (s_t 500)) (.int (Int32.ofNat 11)) ∈ flatC s_G := by decide +kernel
theorem s_l1 : Cond.arrayOf (s_t 501) .int ∈ flatC s_G ∧ Cond.eq (.length (s_t 501)) (.int (Int32.ofNat 10)) ∈ flatC s_G := by decide +kernel
theorem s_l2 : Cond.arrayOf (s_t 502) .int ∈ flatC s_G ∧ Cond.eq (.length (s_t 502)) (.int (Int32.ofNat 10)) ∈ flatC s_G := by decide +kernel
theorem s_s1 : ∀ i, i < 3 → Cond.exactly (s_m i) "java/lang/String" ∈ flatC s_G := by decide +kernel
theorem s_s2 : ∀ i, i < 3 → Cond.eq (.field (s_m i) "java/lang/String" "coder" "B") (.int 0) ∈ flatC s_G := by decide +kernel
theorem s_s3 : ∀ i, i < 3 → Cond.arrayOf (.field (s_m i) "java/lang/String" "value" "[B") .byte ∈ flatC s_G := by decide +kernel
theorem s_s4 : ∀ i, i < 3 → Cond.eq (.length (.field (s_m i) "java/lang/String" "value" "[B")) (.int (Int32.ofNat (([24, 24, 24] : List Nat).getD i 0))) ∈ flatC s_G := by decide +kernel
theorem s_s5 : ∀ i, i < 3 → ∀ j, j < ([24, 24, 24] : List Nat).getD i 0 → Cond.eq (.elem (.field (s_m i) "java/lang/String" "value" "[B") (.int (Int32.ofNat j))) (.int ((m_chs.getD i []).getD j 0)) ∈ flatC s_G := by decide +kernel
theorem s_s6 : ∀ i, i < 3 → ∀ j, j < 3 → i ≠ j → Cond.not (Cond.eq (s_m i) (s_m j)) ∈ flatC s_G ∨ Cond.not (Cond.eq (s_m j) (s_m i)) ∈ flatC s_G := by decide +kernel
theorem s_o1 : Cond.eq (.static "java/lang/String" "COMPACT_STRINGS" "Z") (.int 1) ∈ flatC s_G ∧ Cond.isRef (.static "jdk/internal/util/Preconditions" "SIOOBE_FORMATTER" "Ljava/util/function/BiFunction;") ∈ flatC s_G := by decide +kernel
theorem s_o2 : Cond.isRef (.static Bundle.tN "UNASSIGNED_STACK" Bundle.steD) ∈ flatC s_G ∧ Cond.isRef (.static Bundle.tN "SUPPRESSED_SENTINEL" Bundle.listD) ∈ flatC s_G ∧ Cond.exactly (.string "NullKinds" 116) "java/lang/String" ∈ flatC s_G := by decide +kernel
/-- addresses: objects, arrays, the static tables, the texts -/
def m_adr (ob ar : List Nat) (st kS kV : Nat → Nat) : Nat → Nat := fun a => bif Nat.blt a 7 then ob.getD a 0 else bif Nat.blt a 500 then ar.getD ((m_ai a).getD 0) 0 else bif Nat.blt a 600 then st a else bif Nat.blt a 700 then kS (a - 600) else kV (a - 700)
theorem s_ns {s : State} {b : Nat} (hts : ∀ w ∈ lw_tbl, w.before #[Value.ref b] s = true) : (∀ q ∈ m_FL, q.2.2.2.2 = 1 → va_Nw (.fieldLinkNest (m_R q.1) q.2.1 (m_Tt q.2.2.1 q.2.2.2.1).1 (m_Tt q.2.2.1 q.2.2.2.1).2.1 (m_Tt q.2.2.1 q.2.2.2.1).2.2.1 "NullKinds") s) ∧
    (∀ q ∈ m_ML, q.2.2.2 = 1 → va_Nw (.methodLinkNest (m_R q.1) q.2.1 (m_y q.2.2.1) "NullKinds") s) ∧ (∀ q ∈ m_SL, va_Nw (.fieldLinkNest (m_R q.1) q.2.1 "NullKinds" (m_sn q.2.2) "[I" "NullKinds") s) := by
  have use : ∀ {n : Nat} {w : Cond}, m_in n w = true → w.onTables = true → va_Nw w s := fun {n w} h ho => va_Nw.of ho (hts w (List.mem_of_getElem? (of_decide_eq_true h)))
  refine ⟨fun q hq hz => ?_, fun q hq hz => ?_, fun q hq => ?_⟩
  · obtain ⟨n, h⟩ := m_FLok hq
    obtain ⟨o, ix, c, k, z⟩ := q
    have hz : z = 1 := hz
    subst hz
    have h : m_in n (Cond.fieldLinkNest (m_R o) ix (m_Tt c k).1 (m_Tt c k).2.1 (m_Tt c k).2.2.1 "NullKinds") = true := h
    exact use h rfl
  · obtain ⟨n, h⟩ := m_MLok hq
    obtain ⟨o, ix, M', z⟩ := q
    have hz : z = 1 := hz
    subst hz
    have h : m_in n (Cond.methodLinkNest (m_R o) ix (m_y M') "NullKinds") = true := h
    exact use h rfl
  · obtain ⟨x, hx, rfl⟩ := List.mem_map.mp hq
    have h1 := List.all_eq_true.mp ok_S x hx
    obtain ⟨⟨o, ix, g⟩, n⟩ := x
    have h1 : (m_in n (Cond.fieldLinkNest (m_R o) ix "NullKinds" (m_sn g) "[I" "NullKinds") && Nat.blt 499 g && Nat.blt g 503) = true := h1
    exact use (m_and (m_and h1).1).1 rfl
set_option maxHeartbeats 4000000 in
set_option maxRecDepth 100000 in
theorem s_ex {s : State} {b : Nat} (hts : ∀ w ∈ lw_tbl, w.before #[Value.ref b] s = true) (hgv : s_G.before #[Value.ref b] s = true) : ∃ (st kS kV : Nat → Nat) (sa : Nat), (∀ ob ar : List Nat, m_St (m_adr ob ar st kS kV) (fun q => s.heap.size ≤ q) s s.heap ∧ m_Ns (m_adr ob ar st kS kV) s) ∧ x_N sa (fun q => s.heap.size ≤ q) s s.heap := by
  have hs := flat_of_before _ hgv
  have hA : ∀ a : Nat, a < s.heap.size → ¬ (fun q : Nat => s.heap.size ≤ q) a := fun a h => Nat.not_le.mpr h
  obtain ⟨t0, ht0, hT0⟩ := va_Tof (f := fun j => .int (m_sv 500 j)) (A := fun q : Nat => s.heap.size ≤ q) (N := 11) (by decide) (hs _ s_l0.1) (va_eqt (hs _ s_l0.2)) (fun j hj => va_eqt (hs _ (s_e0 j hj))) hA
  have hZ0 := va_Zof (hts (.laysStatic "NullKinds" "KINDS_OF_TYPE" "[I") (List.mem_of_getElem? (i := 420) (by decide +kernel))) (hts (.initialized "NullKinds") (List.mem_of_getElem? (i := 61) (by decide +kernel))) ht0 hA
  obtain ⟨t1, ht1, hT1⟩ := va_Tof (f := fun j => .int (m_sv 501 j)) (A := fun q : Nat => s.heap.size ≤ q) (N := 10) (by decide) (hs _ s_l1.1) (va_eqt (hs _ s_l1.2)) (fun j hj => va_eqt (hs _ (s_e1 j hj))) hA
  have hZ1 := va_Zof (hts (.laysStatic "NullKinds" "KINDS_FOR_CELL" "[I") (List.mem_of_getElem? (i := 469) (by decide +kernel))) (hts (.initialized "NullKinds") (List.mem_of_getElem? (i := 61) (by decide +kernel))) ht1 hA
  obtain ⟨t2, ht2, hT2⟩ := va_Tof (f := fun j => .int (m_sv 502 j)) (A := fun q : Nat => s.heap.size ≤ q) (N := 10) (by decide) (hs _ s_l2.1) (va_eqt (hs _ s_l2.2)) (fun j hj => va_eqt (hs _ (s_e2 j hj))) hA
  have hZ2 := va_Zof (hts (.laysStatic "NullKinds" "KINDS_TO_MOVE_TO" "[I") (List.mem_of_getElem? (i := 498) (by decide +kernel))) (hts (.initialized "NullKinds") (List.mem_of_getElem? (i := 61) (by decide +kernel))) ht2 hA
  obtain ⟨kS, kV, hkS, hkE⟩ := vk_Sof (tm := s_m) (N := 3) (len := [24, 24, 24]) (byt := m_chs) (A := fun q : Nat => s.heap.size ≤ q) (by decide) (fun i hi => hs _ (s_s1 i hi)) (fun i hi => hs _ (s_s2 i hi)) (fun i hi => hs _ (s_s3 i hi)) (fun i hi => hs _ (s_s4 i hi)) (fun i hi j hj => hs _ (s_s5 i hi j hj)) (fun i j hi hj hne => (s_s6 i hi j hj hne).imp (hs _) (hs _)) hA
  have hC := va_Zof (hts (.laysStatic "java/lang/String" "COMPACT_STRINGS" "Z") (List.mem_of_getElem? (i := 266) (by decide +kernel))) (hts (.initialized "java/lang/String") (List.mem_of_getElem? (i := 68) (by decide +kernel))) (va_eqt (hs _ s_o1.1)) hA
  have hF := va_Zqof (hts (.laysStatic "jdk/internal/util/Preconditions" "SIOOBE_FORMATTER" "Ljava/util/function/BiFunction;") (List.mem_of_getElem? (i := 274) (by decide +kernel))) (hts (.initialized "jdk/internal/util/Preconditions") (List.mem_of_getElem? (i := 70) (by decide +kernel))) (hs _ s_o1.2) hA
  obtain ⟨sa, c9, cA, kA, q1, q2, q3, q4, q5, q6, -⟩ := Cond.exactly_spec (args := #[Value.ref b]) (first := s) (o := none) (s := s) (idx := []) (t := .string "NullKinds" 116) (cls := "java/lang/String") (hs _ s_o2.2.2)
  refine ⟨fun g => if g = 500 then t0 else if g = 501 then t1 else t2, kS, kV, sa, fun ob ar => ⟨⟨fun g h1 h2 => ?_, hC, ⟨fun i hi => ?_, fun i j hi hj e => ?_⟩, hF⟩, ⟨(s_ns hts).1, (s_ns hts).2.1, (s_ns hts).2.2, fun q hq => ?_⟩⟩, ?_⟩
  · have : g = 500 ∨ g = 501 ∨ g = 502 := by omega
    rcases this with rfl | rfl | rfl
    · exact ⟨hZ0, hT0⟩
    · exact ⟨hZ1, hT1⟩
    · exact ⟨hZ2, hT2⟩
  · match i, hi with
    | 0, _ => exact hkS.1 0 (by decide)
    | 1, _ => exact hkS.1 1 (by decide)
    | 2, _ => exact hkS.1 2 (by decide)
  · refine hkS.2 i j hi hj ?_
    match i, hi, j, hj, e with
    | 0, _, 0, _, e => exact e
    | 0, _, 1, _, e => exact e
    | 0, _, 2, _, e => exact e
    | 1, _, 0, _, e => exact e
    | 1, _, 1, _, e => exact e
    | 1, _, 2, _, e => exact e
    | 2, _, 0, _, e => exact e
    | 2, _, 1, _, e => exact e
    | 2, _, 2, _, e => exact e
  · rcases List.mem_cons.mp hq with rfl | hq
    · exact vk_R.of (A := #[Value.ref b]) (hts _ (List.mem_of_getElem? (i := 256) (by decide +kernel))) (hkE 0 (by decide))
    rcases List.mem_cons.mp hq with rfl | hq
    · exact vk_R.of (A := #[Value.ref b]) (hts _ (List.mem_of_getElem? (i := 306) (by decide +kernel))) (hkE 1 (by decide))
    rcases List.mem_cons.mp hq with rfl | hq
    · exact vk_R.of (A := #[Value.ref b]) (hts _ (List.mem_of_getElem? (i := 307) (by decide +kernel))) (hkE 2 (by decide))
    · cases hq
  · refine ⟨vx_Zqof (hts _ (List.mem_of_getElem? (i := 767) (by decide +kernel))) (hts (.initialized Bundle.tN) (List.mem_of_getElem? (i := 73) (by decide +kernel))) (hs _ s_o2.1) hA, vx_Zqof (hts _ (List.mem_of_getElem? (i := 769) (by decide +kernel))) (hts (.initialized Bundle.tN) (List.mem_of_getElem? (i := 73) (by decide +kernel))) (hs _ s_o2.2.1) hA, vk_R.of (A := #[Value.ref b]) (hts _ (List.mem_of_getElem? (i := 779) (by decide +kernel))) q1, va_Nw.of rfl (hts _ (List.mem_of_getElem? (i := 742) (by decide +kernel))), va_Nw.of rfl (hts _ (List.mem_of_getElem? (i := 744) (by decide +kernel))), va_Nw.of rfl (hts _ (List.mem_of_getElem? (i := 746) (by decide +kernel))), va_Nw.of rfl (hts _ (List.mem_of_getElem? (i := 748) (by decide +kernel)))⟩
