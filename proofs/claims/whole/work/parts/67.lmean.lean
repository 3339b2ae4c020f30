theorem l_ofWH {l : Launch} {y : MethodName} {ws ws' : List Cond} {rm : Room} {Pc : Array Value → State → Prop} {Qc : Array Value → State → Outcome → State → Prop} {mc ms : Nat} {free : Addr → Prop} {cc : ByteArray} {maxL : Nat} {ret : Option FieldType} {hh : List (Nat × Nat × Nat × Nat)}
    (hy : plainName y.cls = true) (hw : ws = Cond.codeWith y cc maxL ret hh :: ws')
    (body : ∀ p e s m args below meth c s₁, BodyLoose p l y (headSpec ws rm) cc maxL ret e s m args below meth c s₁ → c.maxLocals = maxL → c.exceptionTable.toList = tableOf hh → Pc args s →
      W p l e (headSpec ws rm).room s m args below meth c s.heap [] 0 0 (MQ below Qc args s mc ms free) (entryFrame m args maxL)) : Met l y ws rm Pc Qc mc ms free := by
  refine MetFree.of_bodyS (code := cc) (maxLocals := maxL) (ret := ret) hy ?_ ?_
  · intro args s m h hn
    obtain ⟨m9, meth, c, hn9, h1, h2, h3, h4, -, h5, h6, -⟩ := Cond.codeWith_spec (atoms_spec (ws := ws) h _ (by rw [hw]; exact List.mem_cons_self))
    cases hn.symm.trans hn9
    exact ⟨meth, c, h1, h2, h3, h4, h5, h6⟩
  · intro p e s m args below meth c s₁ B hml hP _
    have hh0 : s₁.heap = s.heap := by rw [B.state]; rfl
    have ht := vx_table (x := y) B (atoms_spec (ws := ws) B.pre _ (by rw [hw]; exact List.mem_cons_self))
    obtain ⟨t, a1, o, b1, b2, b3⟩ := body p e s m args below meth c s₁ B hml ht hP s₁ hh0 (Stand.of_body B)
    exact ⟨t, o, a1, b1, b2, ⟨b3.1, b3.2⟩⟩
def l_w (ad : Nat → Nat) (cI cZ cJ : ClassId) (S : mS) (o : Nat) (g : Nat → Int64) : va_W := m_w ad cI cZ S ++ [(o, .inl (cJ, 1, .inr (.inl g)))]
def l_tys (cI cZ cJ : ClassId) : List (ClassId × FieldType) := [(cI, .int), (cZ, .boolean), (cJ, .long)]
theorem m_w_len {ad : Nat → Nat} {cI cZ : ClassId} {S : mS} : (m_w ad cI cZ S).length = 42 := by
  unfold m_w m_wa
  rw [List.length_append, m_wo_len, List.length_map]
  rfl
theorem l_w_out {ad : Nat → Nat} {cI cZ cJ : ClassId} {S : mS} {o : Nat} {g : Nat → Int64} : (l_w ad cI cZ cJ S o g)[42]? = some (o, .inl (cJ, 1, .inr (.inl g))) := by
  unfold l_w
  rw [List.getElem?_append_right (by rw [m_w_len]; exact Nat.le_refl _), m_w_len]
  rfl
theorem l_w_set {ad : Nat → Nat} {cI cZ cJ : ClassId} {S : mS} {o : Nat} {g g' : Nat → Int64} : (l_w ad cI cZ cJ S o g).set 42 (o, .inl (cJ, 1, .inr (.inl g'))) = l_w ad cI cZ cJ S o g' := by
  unfold l_w
  rw [List.set_append, if_neg (by rw [m_w_len]; decide), m_w_len]
  rfl
theorem l_P_l {D : va_G} {a b : va_W} {H : Heap} (h : va_P D vwCl (a ++ b) H) : va_P D vwCl a H := fun k q hk => h k q (by rw [List.getElem?_append_left (List.getElem?_eq_some_iff.mp hk).1]; exact hk)
theorem l_P_r {D : va_G} {a b : va_W} {H : Heap} (h : va_P D vwCl (a ++ b) H) : va_P D vwCl b H := fun k q hk => h (a.length + k) q (by rw [List.getElem?_append_right (by omega), Nat.add_sub_cancel_left]; exact hk)
theorem l_D_l {A : Nat → Prop} {a b : va_W} (h : va_D A (a ++ b)) : va_D A a := ⟨fun i j p q hi hj e => h.1 i j p q (by rw [List.getElem?_append_left (List.getElem?_eq_some_iff.mp hi).1]; exact hi) (by rw [List.getElem?_append_left (List.getElem?_eq_some_iff.mp hj).1]; exact hj) e, fun k q hk => h.2 k q (by rw [List.getElem?_append_left (List.getElem?_eq_some_iff.mp hk).1]; exact hk)⟩
/-- the one beside them isn't one of them -/
theorem l_D_o {A : Nat → Prop} {a : va_W} {o : Nat} {x : va_E} (h : va_D A (a ++ [(o, x)])) : ∀ (k : Nat) (e : va_E), ¬ a[k]? = some (o, e) := fun k e hk => by
  have hl := (List.getElem?_eq_some_iff.mp hk).1
  have := h.1 k a.length (o, e) (o, x) (by rw [List.getElem?_append_left hl]; exact hk) (by rw [List.getElem?_append_right (Nat.le_refl _), Nat.sub_self]; rfl) rfl
  omega
def l_Pc (D : va_G) (ad : Nat → Nat) (cI cZ cJ : ClassId) (S : mS) (o : Nat) (g : Nat → Int64) (sz sa : Nat) : Array Value → State → Prop := va_Pc [.ref (ad 5), .ref o] (fun U => U.heap.size = sz ∧ va_P D vwCl (l_w ad cI cZ cJ S o g) U.heap ∧ va_K D vwCl (l_tys cI cZ cJ) U ∧ va_D (fun _ => True) (l_w ad cI cZ cJ S o g) ∧ m_St ad (va_A (l_w ad cI cZ cJ S o g) sz) U U.heap ∧ m_Ns ad U ∧ x_N sa (va_A (l_w ad cI cZ cJ S o g) sz) U U.heap)
theorem l_blind {D : va_G} {ad : Nat → Nat} {cI cZ cJ : ClassId} {S : mS} {o : Nat} {g : Nat → Int64} {sz sa : Nat} : FrameBlind (l_Pc D ad cI cZ cJ S o g sz sa) := by
  intro a U gg mk q
  obtain ⟨q0, q1, qP, qK, qD, qS, qN, qX⟩ := q
  exact ⟨q0, q1, qP, va_K.moved (u := U) (U := U.calling gg mk a) (Vm.Alike.refl U.vm) qK, qD, m_St.moved (u := U) (U := U.calling gg mk a) (Vm.Alike.refl U.vm) qS, m_Ns.same (u := U) (U := U.calling gg mk a) rfl qN, x_N.same (u := U) (U := U.calling gg mk a) rfl qX⟩
abbrev l_B (D : va_G) (ad : Nat → Nat) (cI cZ cJ : ClassId) (S : mS) (o : Nat) (A : Nat → Prop) (u : Nat → Int64) (t : State) : Prop := va_P D vwCl (l_w ad cI cZ cJ S o u) t.heap ∧ va_K D vwCl (l_tys cI cZ cJ) t ∧ va_D A (l_w ad cI cZ cJ S o u)
theorem l_K {D : va_G} {cI cZ cJ : ClassId} {s : State} (h : va_K D vwCl (l_tys cI cZ cJ) s) : va_K D vwCl (m_tys cI cZ) s := h.sub [0, 1] rfl
theorem l_goodM : ∀ w ∈ wsV RL 7 RX5 yX5_mean (x_k :: m_gws), w ∈ m_gws := jall4 x_r3 x_r4 x_r5 q_in5 (jallc x_kw jself)
set_option maxHeartbeats 4000000 in
set_option maxRecDepth 100000 in
theorem c_L_mean (l : Launch) (hl0 : l.stackTraces = false) (D : va_G) (ad : Nat → Nat) (cI cZ cJ : ClassId) (S : mS) (o : Nat) (g : Nat → Int64) (sz sa : Nat) : Met l yL_mean (x_kl :: m_gws) ({ frames := 7, cells := 1, slots := 6, locals := 103 }) (l_Pc D ad cI cZ cJ S o g sz sa)
    (va_Qi (fun (r : Int32) (u : Nat → Int64) => S.1 163 = 0 ∧ r = 1 ∨ ¬ S.1 163 = 0 ∧ r = 0 ∧ u 0 = (S.1 162 / S.1 163).toInt64) (l_B D ad cI cZ cJ S o (va_A (l_w ad cI cZ cJ S o g) sz)) (va_A (l_w ad cI cZ cJ S o g) sz)) 1 6 (va_A (l_w ad cI cZ cJ S o g) sz) := by
  refine l_ofWH (cc := cL_mean) (maxL := 3) (ret := some .int) (by decide) rfl ?_
  intro p e s m args below meth c s₁ B hml htab hv
  obtain ⟨rfl, hsz, hP, hK, hD0, hSt, hNs, hX⟩ := hv
  have hx := B.exec
  have hb := B.bytes
  have hr := B.returns
  have hts := atoms_spec (ws := x_kl :: m_gws) B.pre
  have hown : s.vm.findClass RL = some m.cls := findClass_of_methodNamed B.named
  have hlocks := B.notSynchronized
  subst hsz
  have hD := hD0.self (sz := s.heap.size)
  generalize hAe : va_A (l_w ad cI cZ cJ S o g) s.heap.size = A at hD hSt hX ⊢
  have hA : ∀ q : Nat, s.heap.size ≤ q → A q := fun q h => by rw [← hAe]; exact Or.inr h
  have hS : va_S A s.heap s.heap [] := va_S.rf
  have hl := lv_entry ([.ref (ad 5), .ref o]) (n := 3) (Nat.le_of_ble_eq_true rfl)
  rw [lg_entry_eq]
  generalize (lg_sl ([.ref (ad 5), .ref o]) ++ List.replicate (3 - (lg_sl ([.ref (ad 5), .ref o])).length) Slot.unset).toArray = ls at hl ⊢
  have hl : lv_has ls 3 [(0, .ref (ad 5)), (1, .ref o)] := hl
  have hPm : va_P D vwCl (m_w ad cI cZ S) s.heap := l_P_l hP
  have hDm : va_D A (m_w ad cI cZ S) := l_D_l hD
  have hPo : va_P D vwCl [(o, .inl (cJ, 1, .inr (.inl g)))] s.heap := l_P_r hP
  have hKm : va_K D vwCl (m_tys cI cZ) s := l_K hK
  have hFm := m_A_le hDm hS hA
  have hno : ¬ va_A (m_w ad cI cZ S) s.heap.size o := by
    rintro (⟨k, e9, h⟩ | h)
    · exact l_D_o hD k e9 h
    · have := (hPo 0 _ rfl).lt
      have : o < s.heap.size := this
      omega
  refine lv_aload_n hx hb x_l_0 rfl (lv_at hl 1 rfl) ?_
  refine lv_iconst (v := 0) hx hb x_l_1 (by decide) ?_
  refine lv_aload_n hx hb x_l_2 rfl (lv_at hl 0 rfl) ?_
  refine vx_calli (vx_runV (C := RX5) (As := []) (rest := [.int 0, .ref o]) ⟨hx, hb, hml, hown, hts⟩ (c_X5_mean l hl0 D ad cI cZ S s.heap.size sa) (cwV (index := 7) 0 hts (jgood l_goodM) rfl rfl rfl (by decide +kernel) ⟨Nat.le_of_ble_eq_true rfl, Nat.le_of_ble_eq_true rfl⟩) ⟨x_blind, va_recv hKm hPm (m_cl (by decide)) (m_w_obj (by decide)), fun U hU hW => ⟨rfl, by rw [hU], by rw [hU]; exact hPm, va_K.moved hW.alike hKm, hDm.weaken (fun _ _ _ _ => trivial), by rw [hU]; exact m_St.moved hW.alike (hSt.narrow hFm), m_Ns.warm hW hNs, by rw [hU]; exact x_N.warm hW (hX.narrow hFm)⟩⟩ rfl rfl hl.1 rfl (lv_room (Nat.le_of_ble_eq_true rfl)) x_l_3 ⟨by decide, by decide⟩) hS (fun q _ h => hFm q h) hFm (fun q _ h => hFm q h) (fun E ce q9 u t H1 locs1 ht hvm hpx hBX hz hk hS1 hce hcv hcl => ?_) (fun r u t H1 locs1 ht hvm hpo hB hz hk hS1 => ?_)
  · obtain ⟨rfl, h0⟩ := hpx
    obtain ⟨rfl, hP1, hK1, hD1⟩ := hBX
    rw [ht] at hP1
    have hP2 : va_P D vwCl (l_w ad cI cZ cJ u o g) H1 := hP1.app (hPo.kept (fun k q hq => by
      have : k = 0 := by have := (List.getElem?_eq_some_iff.mp hq).1; simp at this; exact this
      subst this
      cases hq
      exact hk o (by have := (hPo 0 _ rfl).lt; exact this) hno))
    refine vx_catch (own := RL) (name := x_E) (E := x_E) (ce := ce) hown [] ⟨0, 8, 11, 13⟩ [] (by rw [htab]; rfl) (fun z hz => nomatch hz) (by decide) (by decide) (hts _ (List.mem_cons_of_mem _ x_r6)) (va_Nw.use rfl hX.2.2.2.1) hce hcv hcl ?_
    refine lv_astore_n (lv' := [(2, .ref q9), (0, .ref (ad 5)), (1, .ref o)]) hx hb x_l_11 rfl hl (by decide) rfl (fun ls hl => ?_)
    refine lv_iconst (v := 1) hx hb x_l_12 (by decide) ?_
    refine W.widen (k := 1) (n := 6) (by omega) (by omega) ?_
    exact W.iret (v := 1) hx hb hr (fun t ht hW => ⟨⟨_, g, rfl, Or.inl ⟨h0, rfl⟩, by rw [ht]; exact hP2, va_K.moved hW.alike hK, hD⟩, hS1.F ht⟩) hS1.2.2 x_l_13
  · obtain ⟨rfl, h0, hr1⟩ := hpo
    obtain ⟨hP1, hK1, hD1⟩ := hB
    rw [ht] at hP1
    have hP2 : va_P D vwCl (l_w ad cI cZ cJ u o g) H1 := hP1.app (hPo.kept (fun k q hq => by
      have : k = 0 := by have := (List.getElem?_eq_some_iff.mp hq).1; simp at this; exact this
      subst this
      cases hq
      exact hk o (by have := (hPo 0 _ rfl).lt; exact this) hno))
    refine lv_i2l hx hb x_l_6 rfl ?_
    refine va_last hx hb hK hP2 hD hS1 42 2 l_w_out rfl (show vp_in 0 1 by unfold vp_in; decide) x_l_7 (fun H2 locs2 hP3 hD3 hS3 => ?_)
    rw [l_w_set] at hP3 hD3
    refine lv_goto (tgt := 14) hx hb x_l_8 (by decide) ?_
    refine lv_iconst (v := 0) hx hb x_l_14 (by decide) ?_
    refine W.widen (k := 1) (n := 6) (by omega) (by omega) ?_
    exact W.iret (v := 0) hx hb hr (fun t ht hW => ⟨⟨_, _, rfl, Or.inr ⟨h0, rfl, by rw [← hr1]; rfl⟩, by rw [ht]; exact hP3, va_K.moved hW.alike hK, hD3⟩, hS3.F ht⟩) hS3.2.2 x_l_15
