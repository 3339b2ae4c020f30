-- the JDK's String.charAt over the texts of the class
theorem jgood {w0 : Cond} {ws : List Cond} (h : ∀ w ∈ ws, w ∈ m_gws) : GoodIn (w0 :: m_gws) ws := fun w hw => ⟨List.mem_cons_of_mem _ (h w hw), good_of_word (List.mem_filter.mp (h w hw)).2⟩
theorem jall3 {a b c : Cond} {ws : List Cond} (ha : a ∈ m_gws) (hb : b ∈ m_gws) (hc : c ∈ m_gws) (hw : ∀ w ∈ ws, w ∈ m_gws) : ∀ w ∈ ([a, b, c] : List Cond) ++ ws, w ∈ m_gws := by
  intro w h
  rcases List.mem_append.mp h with h | h
  · rcases List.mem_cons.mp h with rfl | h
    · exact ha
    rcases List.mem_cons.mp h with rfl | h
    · exact hb
    rcases List.mem_cons.mp h with rfl | h
    · exact hc
    · cases h
  · exact hw w h
theorem jall4 {a b c d : Cond} {ws : List Cond} (ha : a ∈ m_gws) (hb : b ∈ m_gws) (hc : c ∈ m_gws) (hd : d ∈ m_gws) (hw : ∀ w ∈ ws, w ∈ m_gws) : ∀ w ∈ ([a, b, c, d] : List Cond) ++ ws, w ∈ m_gws := by
  intro w h
  rcases List.mem_append.mp h with h | h
  · rcases List.mem_cons.mp h with rfl | h
    · exact ha
    rcases List.mem_cons.mp h with rfl | h
    · exact hb
    rcases List.mem_cons.mp h with rfl | h
    · exact hc
    rcases List.mem_cons.mp h with rfl | h
    · exact hd
    · cases h
  · exact hw w h
theorem jallc {a : Cond} {ws : List Cond} (ha : a ∈ m_gws) (hw : ∀ w ∈ ws, w ∈ m_gws) : ∀ w ∈ a :: ws, w ∈ m_gws := fun w h => (List.mem_cons.mp h).elim (fun e => e ▸ ha) (hw w)
theorem jself : ∀ w ∈ m_gws, w ∈ m_gws := fun _ h => h
abbrev jk_pci : Cond := .code yJ3_checkIndex_8e157 cJ3_checkIndex_8e157 3 (some .int)
abbrev jk_sci : Cond := .code yJ0_checkIndex_df160 cJ0_checkIndex_df160 2 none
abbrev jk_lat : Cond := .code yJ1_charAt_3b067 cJ1_charAt_3b067 2 (some .char)
abbrev jk_isl : Cond := .code yJ0_isLatin1_aae02 cJ0_isLatin1_aae02 1 (some .boolean)
abbrev jk_chr : Cond := .code yJ0_charAt_5068e cJ0_charAt_5068e 2 (some .char)
theorem jc_pci : jk_pci ∈ m_gws := List.mem_filter.mpr ⟨List.mem_of_getElem? (i := 277) rfl, rfl⟩
theorem jc_sci : jk_sci ∈ m_gws := List.mem_filter.mpr ⟨List.mem_of_getElem? (i := 272) rfl, rfl⟩
theorem jc_lat : jk_lat ∈ m_gws := List.mem_filter.mpr ⟨List.mem_of_getElem? (i := 269) rfl, rfl⟩
theorem jc_isl : jk_isl ∈ m_gws := List.mem_filter.mpr ⟨List.mem_of_getElem? (i := 264) rfl, rfl⟩
theorem jc_chr : jk_chr ∈ m_gws := List.mem_filter.mpr ⟨List.mem_of_getElem? (i := 260) rfl, rfl⟩
theorem jl_chr : Cond.methodLink RX3 33 yJ0_charAt_5068e ∈ m_gws := m_gw_in (k := 257) (by decide +kernel)
theorem jl_isl : Cond.methodLink RJ0 492 yJ0_isLatin1_aae02 ∈ m_gws := m_gw_in (k := 261) (by decide +kernel)
theorem jl_lat : Cond.methodLink RJ0 495 yJ1_charAt_3b067 ∈ m_gws := m_gw_in (k := 267) (by decide +kernel)
theorem jl_sci : Cond.methodLink RJ1 9 yJ0_checkIndex_df160 ∈ m_gws := m_gw_in (k := 270) (by decide +kernel)
theorem jl_pci : Cond.methodLink RJ0 1059 yJ3_checkIndex_8e157 ∈ m_gws := m_gw_in (k := 275) (by decide +kernel)
theorem js_lat : Cond.static yJ1_charAt_3b067 ∈ m_gws := m_gw_in (k := 268) (by decide +kernel)
theorem js_sci : Cond.static yJ0_checkIndex_df160 ∈ m_gws := m_gw_in (k := 271) (by decide +kernel)
theorem js_pci : Cond.static yJ3_checkIndex_8e157 ∈ m_gws := m_gw_in (k := 276) (by decide +kernel)
theorem ji_chr : Cond.instanceMethod yJ0_charAt_5068e ∈ m_gws := m_gw_in (k := 258) (by decide +kernel)
theorem ji_isl : Cond.instanceMethod yJ0_isLatin1_aae02 ∈ m_gws := m_gw_in (k := 262) (by decide +kernel)
theorem je_chr : Cond.selects RJ0 yJ0_charAt_5068e yJ0_charAt_5068e ∈ m_gws := m_gw_in (k := 259) (by decide +kernel)
theorem je_isl : Cond.selects RJ0 yJ0_isLatin1_aae02 yJ0_isLatin1_aae02 ∈ m_gws := m_gw_in (k := 263) (by decide +kernel)
theorem jn_0 : Cond.initialized RJ0 ∈ m_gws := m_gw_in (k := 68) (by decide +kernel)
theorem jn_1 : Cond.initialized RJ1 ∈ m_gws := m_gw_in (k := 69) (by decide +kernel)
theorem jn_3 : Cond.initialized RJ3 ∈ m_gws := m_gw_in (k := 70) (by decide +kernel)
theorem jf_cs : Cond.fieldLink RJ0 38 "java/lang/String" "COMPACT_STRINGS" "Z" ∈ m_gws := m_gw_in (k := 265) (by decide +kernel)
theorem jf_fm : Cond.fieldLink RJ0 1053 "jdk/internal/util/Preconditions" "SIOOBE_FORMATTER" "Ljava/util/function/BiFunction;" ∈ m_gws := m_gw_in (k := 273) (by decide +kernel)
theorem jf_co : Cond.fieldLink RJ0 15 "java/lang/String" "coder" "B" ∈ m_gws := m_gw_in (k := 1077) (by decide +kernel)
theorem jf_va : Cond.fieldLink RJ0 9 "java/lang/String" "value" "[B" ∈ m_gws := m_gw_in (k := 1078) (by decide +kernel)
theorem jd3_0 : decode cJ3_checkIndex_8e157 0 = .ok (.iload_n 0, 1) := by decide +kernel
theorem jd3_1 : decode cJ3_checkIndex_8e157 1 = .ok (.ifCond .lt 8, 3) := by decide +kernel
theorem jd3_4 : decode cJ3_checkIndex_8e157 4 = .ok (.iload_n 0, 1) := by decide +kernel
theorem jd3_5 : decode cJ3_checkIndex_8e157 5 = .ok (.iload_n 1, 1) := by decide +kernel
theorem jd3_6 : decode cJ3_checkIndex_8e157 6 = .ok (.if_icmp .lt 10, 3) := by decide +kernel
theorem jd3_16 : decode cJ3_checkIndex_8e157 16 = .ok (.iload_n 0, 1) := by decide +kernel
theorem jd3_17 : decode cJ3_checkIndex_8e157 17 = .ok (.ireturn, 1) := by decide +kernel
theorem jdc_0 : decode cJ0_checkIndex_df160 0 = .ok (.iload_n 0, 1) := by decide +kernel
theorem jdc_1 : decode cJ0_checkIndex_df160 1 = .ok (.iload_n 1, 1) := by decide +kernel
theorem jdc_2 : decode cJ0_checkIndex_df160 2 = .ok (.getstatic 1053, 3) := by decide +kernel
theorem jdc_5 : decode cJ0_checkIndex_df160 5 = .ok (.invokestatic 1059, 3) := by decide +kernel
theorem jdc_8 : decode cJ0_checkIndex_df160 8 = .ok (.pop, 1) := by decide +kernel
theorem jdc_9 : decode cJ0_checkIndex_df160 9 = .ok (.return_, 1) := by decide +kernel
theorem jdl_0 : decode cJ1_charAt_3b067 0 = .ok (.iload_n 1, 1) := by decide +kernel
theorem jdl_1 : decode cJ1_charAt_3b067 1 = .ok (.aload_n 0, 1) := by decide +kernel
theorem jdl_2 : decode cJ1_charAt_3b067 2 = .ok (.arraylength, 1) := by decide +kernel
theorem jdl_3 : decode cJ1_charAt_3b067 3 = .ok (.invokestatic 9, 3) := by decide +kernel
theorem jdl_6 : decode cJ1_charAt_3b067 6 = .ok (.aload_n 0, 1) := by decide +kernel
theorem jdl_7 : decode cJ1_charAt_3b067 7 = .ok (.iload_n 1, 1) := by decide +kernel
theorem jdl_8 : decode cJ1_charAt_3b067 8 = .ok (.baload, 1) := by decide +kernel
theorem jdl_9 : decode cJ1_charAt_3b067 9 = .ok (.sipush 255, 3) := by decide +kernel
theorem jdl_12 : decode cJ1_charAt_3b067 12 = .ok (.iand, 1) := by decide +kernel
theorem jdl_13 : decode cJ1_charAt_3b067 13 = .ok (.i2c, 1) := by decide +kernel
theorem jdl_14 : decode cJ1_charAt_3b067 14 = .ok (.ireturn, 1) := by decide +kernel
theorem jdi_0 : decode cJ0_isLatin1_aae02 0 = .ok (.getstatic 38, 3) := by decide +kernel
theorem jdi_3 : decode cJ0_isLatin1_aae02 3 = .ok (.ifCond .eq 14, 3) := by decide +kernel
theorem jdi_6 : decode cJ0_isLatin1_aae02 6 = .ok (.aload_n 0, 1) := by decide +kernel
theorem jdi_7 : decode cJ0_isLatin1_aae02 7 = .ok (.getfield 15, 3) := by decide +kernel
theorem jdi_10 : decode cJ0_isLatin1_aae02 10 = .ok (.ifCond .ne 7, 3) := by decide +kernel
theorem jdi_13 : decode cJ0_isLatin1_aae02 13 = .ok (.iconst 1, 1) := by decide +kernel
theorem jdi_14 : decode cJ0_isLatin1_aae02 14 = .ok (.goto 4, 3) := by decide +kernel
theorem jdi_18 : decode cJ0_isLatin1_aae02 18 = .ok (.ireturn, 1) := by decide +kernel
theorem jdh_0 : decode cJ0_charAt_5068e 0 = .ok (.aload_n 0, 1) := by decide +kernel
theorem jdh_1 : decode cJ0_charAt_5068e 1 = .ok (.invokevirtual 492, 3) := by decide +kernel
theorem jdh_4 : decode cJ0_charAt_5068e 4 = .ok (.ifCond .eq 12, 3) := by decide +kernel
theorem jdh_7 : decode cJ0_charAt_5068e 7 = .ok (.aload_n 0, 1) := by decide +kernel
theorem jdh_8 : decode cJ0_charAt_5068e 8 = .ok (.getfield 9, 3) := by decide +kernel
theorem jdh_11 : decode cJ0_charAt_5068e 11 = .ok (.iload_n 1, 1) := by decide +kernel
theorem jdh_12 : decode cJ0_charAt_5068e 12 = .ok (.invokestatic 495, 3) := by decide +kernel
theorem jdh_15 : decode cJ0_charAt_5068e 15 = .ok (.ireturn, 1) := by decide +kernel
abbrev jZ (A : Nat → Prop) (U : State) (H : Heap) : Prop := va_Zq "jdk/internal/util/Preconditions" "SIOOBE_FORMATTER" "Ljava/util/function/BiFunction;" A U H
set_option maxHeartbeats 1000000 in
set_option maxRecDepth 100000 in
theorem c_pci (l : Launch) (x n : Int32) (v : Value) (hv : v = .null ∨ ∃ t, v = .ref t) (h0 : ¬ x < 0) (h1 : x < n) : Met l yJ3_checkIndex_8e157 (jk_pci :: m_gws) (m_rm 0) (fun a _ => a = ([.int x, .int n, v] : List Value).toArray) (vp_Si (fun r => r = x)) 0 0 (fun _ => False) := by
  refine Met.ofW (cc := cJ3_checkIndex_8e157) (maxL := 3) (ret := some .int) (by decide) rfl ?_
  intro p e s m args below meth c s₁ B hml ha
  subst ha
  have hx := B.exec
  have hb := B.bytes
  have hr := B.returns
  have hlocks := B.notSynchronized
  have hl := lv_entry ([.int x, .int n, v]) (n := 3) (by rcases hv with rfl | ⟨t, rfl⟩ <;> exact Nat.le_of_ble_eq_true rfl)
  rw [lg_entry_eq]
  generalize (lg_sl ([.int x, .int n, v]) ++ List.replicate (3 - (lg_sl ([.int x, .int n, v])).length) Slot.unset).toArray = ls at hl ⊢
  have hl : lv_has ls 3 [(0, .int x), (1, .int n), (2, v)] := hl
  refine lv_iload_n hx hb jd3_0 rfl (lv_at hl 0 rfl) ?_
  refine lv_if_lt (tgt := 9) hx hb jd3_1 (by decide) (fun c1 => absurd c1 h0) (fun _ => ?_)
  refine lv_iload_n hx hb jd3_4 rfl (lv_at hl 0 rfl) ?_
  refine lv_iload_n hx hb jd3_5 rfl (lv_at hl 1 rfl) ?_
  refine lv_icmp_lt (tgt := 16) hx hb jd3_6 (by decide) (fun _ => ?_) (fun c1 => absurd h1 c1)
  refine lv_iload_n hx hb jd3_16 rfl (lv_at hl 0 rfl) ?_
  exact W.iret hx hb hr (fun t ht hW => ⟨x, rfl, rfl, ht⟩) (fun _ h => by cases h) jd3_17 hlocks
set_option maxHeartbeats 1000000 in
set_option maxRecDepth 100000 in
theorem c_sci (l : Launch) (A : Nat → Prop) (x n : Int32) (h0 : ¬ x < 0) (h1 : x < n) : Met l yJ0_checkIndex_df160 (jk_sci :: m_gws) (m_rm 1) (va_Pc [.int x, .int n] (fun U => jZ A U U.heap)) (va_Sv (fun _ => True)) 0 0 (fun _ => False) := by
  refine Met.ofW (cc := cJ0_checkIndex_df160) (maxL := 2) (ret := none) (by decide) rfl ?_
  intro p e s m args below meth c s₁ B hml ha
  obtain ⟨rfl, hZ⟩ := ha
  have hx := B.exec
  have hb := B.bytes
  have hr := B.returns
  have hts := atoms_spec (ws := jk_sci :: m_gws) B.pre
  have hown : s.vm.findClass RJ0 = some m.cls := findClass_of_methodNamed B.named
  have hlocks := B.notSynchronized
  have hg : ∀ w ∈ m_gws, w.before ([Value.int x, .int n] : List Value).toArray s = true := fun w h => hts w (List.mem_cons_of_mem _ h)
  have hl := lv_entry ([.int x, .int n]) (n := 2) (Nat.le_of_ble_eq_true rfl)
  rw [lg_entry_eq]
  generalize (lg_sl ([.int x, .int n]) ++ List.replicate (2 - (lg_sl ([.int x, .int n])).length) Slot.unset).toArray = ls at hl ⊢
  have hl : lv_has ls 2 [(0, .int x), (1, .int n)] := hl
  have hS : va_S A s.heap s.heap [] := va_S.rf
  obtain ⟨v, hv, hZv⟩ : ∃ v : Value, (v = .null ∨ ∃ t, v = .ref t) ∧ va_Z "jdk/internal/util/Preconditions" "SIOOBE_FORMATTER" "Ljava/util/function/BiFunction;" v A s s.heap := by
    rcases hZ with h | ⟨t, h⟩
    · exact ⟨_, Or.inl rfl, h⟩
    · exact ⟨_, Or.inr ⟨t, rfl⟩, h⟩
  refine lv_iload_n hx hb jdc_0 rfl (lv_at hl 0 rfl) ?_
  refine lv_iload_n hx hb jdc_1 rfl (lv_at hl 1 rfl) ?_
  refine va_gets hx hb hZv hS hown (hg _ jf_fm) (fun _ h => h) jdc_2 ?_
  refine vp_callSi (W.runS (As := [.int x, .int n, v]) (rest := []) ⟨hx, hb, hml, hown, hts⟩ (c_pci l x n v hv h0 h1) (va_cwS (index := 1059) 3 hts (jgood (jall3 jl_pci js_pci jn_3 (jallc jc_pci jself))) rfl rfl rfl (by decide +kernel) ⟨Nat.le_of_ble_eq_true rfl, Nat.le_of_ble_eq_true rfl⟩) ⟨fun _ _ _ _ q => q, fun _ _ _ => rfl⟩ rfl rfl hl.1 rfl (lv_room (Nat.le_of_ble_eq_true rfl)) jdc_5 ⟨Nat.le_of_ble_eq_true rfl, Nat.le_of_ble_eq_true rfl⟩) (fun r hr1 => ?_)
  refine lv_pop hx hb jdc_8 rfl ?_
  exact W.vret hx hb hr (fun t ht hW => ⟨rfl, trivial, ht⟩) (fun _ h => by cases h) jdc_9 hlocks
theorem j_chv : ∀ g, g < 3 → ∀ j, j < 24 → (((m_chs.getD g []).getD j 0 &&& 255).toUInt32 % 65536).toInt32 = (m_chs.getD g []).getD j 0 := by decide +kernel
theorem j_chn : ∀ g, g < 3 → ∀ j, j < 24 → narrow .char (.int ((m_chs.getD g []).getD j 0)) = .int ((m_chs.getD g []).getD j 0) := by decide +kernel
set_option maxHeartbeats 1000000 in
set_option maxRecDepth 100000 in
theorem c_lat (l : Launch) (A : Nat → Prop) (a g : Nat) (hg3 : g < 3) (x : Int32) (hi : vp_in x 24) : Met l yJ1_charAt_3b067 (jk_lat :: m_gws) (m_rm 2) (va_Pc [.ref a, .int x] (fun U => jZ A U U.heap ∧ va_T .byte a 24 (fun j => .int ((m_chs.getD g []).getD j 0)) A U U.heap)) (vp_Si (fun r => r = (m_chs.getD g []).getD x.toNatClampNeg 0)) 0 0 (fun _ => False) := by
  refine Met.ofW (cc := cJ1_charAt_3b067) (maxL := 2) (ret := some .char) (by decide) rfl ?_
  intro p e s m args below meth c s₁ B hml ha
  obtain ⟨rfl, hZ, hT⟩ := ha
  have hx := B.exec
  have hb := B.bytes
  have hr := B.returns
  have hts := atoms_spec (ws := jk_lat :: m_gws) B.pre
  have hown : s.vm.findClass RJ1 = some m.cls := findClass_of_methodNamed B.named
  have hlocks := B.notSynchronized
  have hl := lv_entry ([.ref a, .int x]) (n := 2) (Nat.le_of_ble_eq_true rfl)
  rw [lg_entry_eq]
  generalize (lg_sl ([.ref a, .int x]) ++ List.replicate (2 - (lg_sl ([.ref a, .int x])).length) Slot.unset).toArray = ls at hl ⊢
  have hl : lv_has ls 2 [(0, .ref a), (1, .int x)] := hl
  have hS : va_S A s.heap s.heap [] := va_S.rf
  obtain ⟨j, hj, ej⟩ := vp_in_of hi (by decide)
  have hcl : x.toNatClampNeg = j := by rw [ej]; exact nI_clamp (by omega)
  refine lv_iload_n hx hb jdl_0 rfl (lv_at hl 1 rfl) ?_
  refine lv_aload_n hx hb jdl_1 rfl (lv_at hl 0 rfl) ?_
  refine va_tlen hx hb hT hS (v := 24) rfl jdl_2 ?_
  refine va_csv (W.runS (As := [.int x, .int 24]) (rest := []) ⟨hx, hb, hml, hown, hts⟩ (c_sci l A x 24 (by rw [ej]; exact nI_pos (by omega)) (by rw [ej]; exact nI_lt hj (by decide))) (va_cwS (index := 9) 2 hts (jgood (jall3 jl_sci js_sci jn_0 (jallc jc_sci jself))) rfl rfl rfl (by decide +kernel) ⟨Nat.le_of_ble_eq_true rfl, Nat.le_of_ble_eq_true rfl⟩) ⟨fun q U g9 mk z => ⟨z.1, va_Zq.moved (u := U) (U := U.calling g9 mk q) (Vm.Alike.refl U.vm) z.2⟩, fun U hU hW => ⟨rfl, by show jZ A U U.heap; rw [hU]; exact va_Zq.moved hW.alike hZ⟩⟩ rfl rfl hl.1 rfl (lv_room (Nat.le_of_ble_eq_true rfl)) jdl_3 ⟨Nat.le_of_ble_eq_true rfl, Nat.le_of_ble_eq_true rfl⟩) (fun _ => ?_)
  refine lv_aload_n hx hb jdl_6 rfl (lv_at hl 0 rfl) ?_
  refine lv_iload_n hx hb jdl_7 rfl (lv_at hl 1 rfl) ?_
  refine va_tb hx hb hT hS hi (v := .int ((m_chs.getD g []).getD x.toNatClampNeg 0)) rfl jdl_8 ?_
  refine lv_sipush hx hb jdl_9 (v := 255) (by decide) ?_
  refine lv_iand hx hb jdl_12 ?_
  refine lv_i2c hx hb jdl_13 (v := (m_chs.getD g []).getD x.toNatClampNeg 0) (by rw [hcl]; exact j_chv g hg3 j hj) ?_
  exact W.zret hx hb hr (by rw [hcl]; exact j_chn g hg3 j hj) (fun t ht hW => ⟨_, rfl, rfl, ht⟩) (fun _ h => by cases h) jdl_14 hlocks
set_option maxHeartbeats 1000000 in
set_option maxRecDepth 100000 in
theorem c_isl (l : Launch) (A : Nat → Prop) (a : Nat) : Met l yJ0_isLatin1_aae02 (jk_isl :: m_gws) (m_rm 0) (va_Pc [.ref a] (fun U => va_Z "java/lang/String" "COMPACT_STRINGS" "Z" (.int 1) A U U.heap ∧ va_OF "java/lang/String" "coder" "B" (.int 0) a A U U.heap)) (vp_Si (fun r => r = 1)) 0 0 (fun _ => False) := by
  refine Met.ofW (cc := cJ0_isLatin1_aae02) (maxL := 1) (ret := some .boolean) (by decide) rfl ?_
  intro p e s m args below meth c s₁ B hml ha
  obtain ⟨rfl, hZ, hO⟩ := ha
  have hx := B.exec
  have hb := B.bytes
  have hr := B.returns
  have hts := atoms_spec (ws := jk_isl :: m_gws) B.pre
  have hown : s.vm.findClass RJ0 = some m.cls := findClass_of_methodNamed B.named
  have hlocks := B.notSynchronized
  have hg : ∀ w ∈ m_gws, w.before ([Value.ref a] : List Value).toArray s = true := fun w h => hts w (List.mem_cons_of_mem _ h)
  have hl := lv_entry ([.ref a]) (n := 1) (Nat.le_of_ble_eq_true rfl)
  rw [lg_entry_eq]
  generalize (lg_sl ([.ref a]) ++ List.replicate (1 - (lg_sl ([.ref a])).length) Slot.unset).toArray = ls at hl ⊢
  have hl : lv_has ls 1 [(0, .ref a)] := hl
  have hS : va_S A s.heap s.heap [] := va_S.rf
  refine va_gets hx hb hZ hS hown (hg _ jf_cs) (fun _ h => h) jdi_0 ?_
  refine lv_if_eq (tgt := 17) hx hb jdi_3 (by decide) (fun c1 => absurd c1 (by decide)) (fun _ => ?_)
  refine lv_aload_n hx hb jdi_6 rfl (lv_at hl 0 rfl) ?_
  refine vk_getf hx hb hO hS hown (hg _ jf_co) (fun _ h => h) jdi_7 ?_
  refine lv_if_ne (tgt := 17) hx hb jdi_10 (by decide) (fun c1 => absurd rfl c1) (fun _ => ?_)
  refine lv_iconst (v := 1) hx hb jdi_13 (by decide) ?_
  refine lv_goto (tgt := 18) hx hb jdi_14 (by decide) ?_
  exact W.zret hx hb hr rfl (fun t ht hW => ⟨1, rfl, rfl, ht⟩) (fun _ h => by cases h) jdi_18 hlocks
theorem j_24 : ∀ g, g < 3 → ([24, 24, 24] : List Nat).getD g 0 = 24 := by decide
/-- a text's char: what the caller must hold -/
def j_Px (A : Nat → Prop) (ad : Nat → Nat) (U : State) : Prop := va_Z "java/lang/String" "COMPACT_STRINGS" "Z" (.int 1) A U U.heap ∧ vk_S 3 [24, 24, 24] m_chs (fun i => ad (600 + i)) (fun i => ad (700 + i)) A U U.heap ∧ jZ A U U.heap
theorem j_Px.moved {A : Nat → Prop} {ad : Nat → Nat} {u U : State} (hvm : u.vm.Alike U.vm) (hh : U.heap = u.heap) (h : j_Px A ad u) : j_Px A ad U := by
  unfold j_Px
  rw [hh]
  exact ⟨va_Z.moved hvm h.1, vk_S.moved hvm h.2.1, va_Zq.moved hvm h.2.2⟩
set_option maxHeartbeats 1000000 in
set_option maxRecDepth 100000 in
theorem c_chr (l : Launch) (A : Nat → Prop) (ad : Nat → Nat) (g : Nat) (hg3 : g < 3) (x : Int32) (hi : vp_in x 24) : Met l yJ0_charAt_5068e (jk_chr :: m_gws) (m_rm 3) (va_Pc [.ref (ad (600 + g)), .int x] (j_Px A ad)) (vp_Si (fun r => r = (m_chs.getD g []).getD x.toNatClampNeg 0)) 0 0 (fun _ => False) := by
  refine Met.ofW (cc := cJ0_charAt_5068e) (maxL := 2) (ret := some .char) (by decide) rfl ?_
  intro p e s m args below meth c s₁ B hml ha
  obtain ⟨rfl, hZ, hV, hF⟩ := ha
  have hx := B.exec
  have hb := B.bytes
  have hr := B.returns
  have hts := atoms_spec (ws := jk_chr :: m_gws) B.pre
  have hown : s.vm.findClass RJ0 = some m.cls := findClass_of_methodNamed B.named
  have hlocks := B.notSynchronized
  have hg : ∀ w ∈ m_gws, w.before ([Value.ref (ad (600 + g)), .int x] : List Value).toArray s = true := fun w h => hts w (List.mem_cons_of_mem _ h)
  have hl := lv_entry ([.ref (ad (600 + g)), .int x]) (n := 2) (Nat.le_of_ble_eq_true rfl)
  rw [lg_entry_eq]
  generalize (lg_sl ([.ref (ad (600 + g)), .int x]) ++ List.replicate (2 - (lg_sl ([.ref (ad (600 + g)), .int x])).length) Slot.unset).toArray = ls at hl ⊢
  have hl : lv_has ls 2 [(0, .ref (ad (600 + g))), (1, .int x)] := hl
  have hS : va_S A s.heap s.heap [] := va_S.rf
  obtain ⟨j, hj, ej⟩ := vp_in_of hi (by decide)
  have hcl : x.toNatClampNeg = j := by rw [ej]; exact nI_clamp (by omega)
  obtain ⟨v1, v2, v3, v4⟩ := hV.1 g hg3
  have v4' : va_T .byte (ad (700 + g)) 24 (fun j => .int ((m_chs.getD g []).getD j 0)) A s s.heap := by
    rw [j_24 g hg3] at v4
    exact v4
  refine lv_aload_n hx hb jdh_0 rfl (lv_at hl 0 rfl) ?_
  refine vp_callSi (W.runV (C := RJ0) (As := []) (rest := []) ⟨hx, hb, hml, hown, hts⟩ (c_isl l A (ad (600 + g))) (cwV (index := 492) 0 hts (jgood (jall4 jl_isl ji_isl je_isl jn_0 (jallc jc_isl jself))) rfl rfl rfl (by decide +kernel) ⟨Nat.le_of_ble_eq_true rfl, Nat.le_of_ble_eq_true rfl⟩) ⟨fun q U g9 mk z => ⟨z.1, va_Z.moved (u := U) (U := U.calling g9 mk q) (Vm.Alike.refl U.vm) z.2.1, va_OF.moved (u := U) (U := U.calling g9 mk q) (Vm.Alike.refl U.vm) z.2.2⟩, vk_recv hV hg3 hS, fun U hU hW => ⟨rfl, by rw [hU]; exact va_Z.moved hW.alike hZ, by rw [hU]; exact va_OF.moved hW.alike v2⟩⟩ rfl rfl hl.1 rfl (lv_room (Nat.le_of_ble_eq_true rfl)) jdh_1 ⟨Nat.le_of_ble_eq_true rfl, Nat.le_of_ble_eq_true rfl⟩) (fun r hr1 => ?_)
  subst hr1
  refine lv_if_eq (tgt := 16) hx hb jdh_4 (by decide) (fun c1 => absurd c1 (by decide)) (fun _ => ?_)
  refine lv_aload_n hx hb jdh_7 rfl (lv_at hl 0 rfl) ?_
  refine vk_getf hx hb v3 hS hown (hg _ jf_va) (fun _ h => h) jdh_8 ?_
  refine lv_iload_n hx hb jdh_11 rfl (lv_at hl 1 rfl) ?_
  refine vp_callSi (W.runS (As := [.ref (ad (700 + g)), .int x]) (rest := []) ⟨hx, hb, hml, hown, hts⟩ (c_lat l A (ad (700 + g)) g hg3 x hi) (va_cwS (index := 495) 2 hts (jgood (jall3 jl_lat js_lat jn_1 (jallc jc_lat jself))) rfl rfl rfl (by decide +kernel) ⟨Nat.le_of_ble_eq_true rfl, Nat.le_of_ble_eq_true rfl⟩) ⟨fun q U g9 mk z => ⟨z.1, va_Zq.moved (u := U) (U := U.calling g9 mk q) (Vm.Alike.refl U.vm) z.2.1, va_T.moved (u := U) (U := U.calling g9 mk q) (Vm.Alike.refl U.vm) z.2.2⟩, fun U hU hW => ⟨rfl, by rw [hU]; exact va_Zq.moved hW.alike hF, by rw [hU]; exact va_T.moved hW.alike v4'⟩⟩ rfl rfl hl.1 rfl (lv_room (Nat.le_of_ble_eq_true rfl)) jdh_12 ⟨Nat.le_of_ble_eq_true rfl, Nat.le_of_ble_eq_true rfl⟩) (fun r hr1 => ?_)
  subst hr1
  exact W.zret hx hb hr (by rw [hcl]; exact j_chn g hg3 j hj) (fun t ht hW => ⟨_, rfl, rfl, ht⟩) (fun _ h => by cases h) jdh_15 hlocks
