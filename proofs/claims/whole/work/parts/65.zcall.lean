section ZC
variable {p : Program} {l : Launch} {e : Env} {R : Room} {s : State} {m : MethodId} {args : Array Value} {below : List Frame} {meth : Method} {c : Code} {H : Heap} {locs : List Loc} {cells slots : Nat} {Q : State → Prop}
variable {D : va_G} {ad : Nat → Nat} {cI cZ : ClassId} {A : Nat → Prop} {cc : ByteArray} {pc : Nat} {ls : Array Slot} {nL : Nat} {Ts : List Cond} {own : String} {S : mS}
/-- what a caller of the mini machine's methods has -/
def z_F (p : Program) (s : State) (m : MethodId) (args : Array Value) (c : Code) (cc : ByteArray) (nL : Nat) (Ts : List Cond) (own : String) (D : va_G) (ad : Nat → Nat) (cI cZ : ClassId) (A : Nat → Prop) : Prop :=
  CallFix p m c cc nL s args Ts own ∧ (∀ w ∈ m_gws, w ∈ Ts) ∧ va_K D vwCl (m_tys cI cZ) s ∧ m_St ad A s s.heap ∧ m_Ns ad s ∧ (∀ q, s.heap.size ≤ q → A q)
def z_S (D : va_G) (ad : Nat → Nat) (cI cZ : ClassId) (A : Nat → Prop) (s : State) (H : Heap) (locs : List Loc) (S : mS) : Prop := va_P D vwCl (m_w ad cI cZ S) H ∧ va_D A (m_w ad cI cZ S) ∧ va_S A s.heap H locs
/-- a call of a method of the mini machine, from a frame of the machine -/
theorem z_call {Qm : mQ} {M d ix : Nat} {as rest : List Value} (F : z_F p s m args c cc nL Ts own D ad cI cZ A) (hS0 : z_S D ad cI cZ A s H locs S) (hE : Ev d M (.ref (m_ow M) :: as) S Qm) (hM : M < m_NM) (hst : m_is M = false)
    (hcat : ((Value.ref (m_ow M) :: as).map fun v => v.category).sum ≤ m_mx M) (hlk : Cond.methodLink own ix (m_y M) ∈ m_gws) (hn : as.length = m_np M) (hRm : d + 1 ≤ R.frames ∧ 8 + (m_mx M + 11) + 37 * d ≤ R.locals)
    (hl : ls.size = nL) (hW8 : (rest.map fun v => v.category).sum ≤ 8) (hR : cells ≤ R.cells ∧ slots ≤ R.slots) (hd : decode cc pc = .ok (.invokevirtual ix, 3))
    (kk : ∀ (v : Option Value) (S' : mS) (H1 : Heap) (locs1 : List Loc), m_pl v → Qm v S' → z_S D ad cI cZ A s H1 locs1 S' → H.size ≤ H1.size → (∀ q : Nat, q < H.size → ¬ va_A (m_w ad cI cZ S) H.size q → H1[q]? = H[q]?) → W p l e R s m args below meth c H1 locs1 cells slots Q (F0 m (pc + 3) ls (v.toList ++ rest))) :
    W p l e R s m args below meth c H locs cells slots Q (F0 m pc ls ((as.map (m_v ad)).reverse ++ .ref (ad (m_ow M)) :: rest)) := by
  obtain ⟨hC, hTs, hK, hSt, hNs, hA⟩ := F
  obtain ⟨hP, hD, hS⟩ := hS0
  have hFr := m_A_le hD hS hA
  obtain ⟨a1, a2, a3, a4, a5, a6, a7, a8, a9, a10⟩ := m_okM_all hM
  obtain ⟨b1, b2, b3⟩ := a9 hst
  have hMet := Wp.met hE hM hcat l D ad cI cZ H.size
  have hpre : ∀ U : State, U.heap = H → s.WarmedH U.vm → m_Pc D ad cI cZ (.ref (m_ow M) :: as) S H.size ((Value.ref (m_ow M) :: as).map (m_v ad)).toArray U := fun U hU hW =>
    ⟨rfl, by rw [hU], by rw [hU]; exact hP, va_K.moved hW.alike hK, hD.weaken (fun _ _ _ _ => trivial), by rw [hU]; exact m_St.moved hW.alike ((hSt.kept hS.2.1).narrow hFr), m_Ns.warm hW hNs⟩
  have hgood : GoodIn Ts (wsV own ix (m_R (m_ow M)) (m_y M) (m_ws M)) := by
    have hm : ∀ w ∈ wsV own ix (m_R (m_ow M)) (m_y M) (m_ws M), w ∈ m_gws := fun w hw => by
      unfold wsV at hw
      rcases List.mem_append.mp hw with hw | hw
      · rcases List.mem_cons.mp hw with rfl | hw
        · exact hlk
        rcases List.mem_cons.mp hw with rfl | hw
        · exact b1
        rcases List.mem_cons.mp hw with rfl | hw
        · exact b2
        rcases List.mem_cons.mp hw with rfl | hw
        · exact a2
        · cases hw
      · exact m_ws_gws hM w hw
    exact fun w hw => ⟨hTs w (hm w hw), good_of_word (List.mem_filter.mp (hm w hw)).2⟩
  have hlen : (as.map (m_v ad)).length = m_np M := by rw [List.length_map]; exact hn
  have run := va_runV (C := m_R (m_ow M)) (As := as.map (m_v ad)) (rest := rest) (g := F0 m pc ls ((as.map (m_v ad)).reverse ++ .ref (ad (m_ow M)) :: rest)) (p := p) (l := l) (e := e) (below := below) (meth := meth) (locs := locs) (cells := cells) (slots := slots) (R := R) hC hMet (cwV (index := ix) (m_np M) hC.2.2.2.2 hgood rfl rfl rfl ⟨a3, a5, a6, a7⟩ ⟨hRm.1, hRm.2⟩) ⟨m_Pc_blind, va_recv hK hP (m_cl b3) (m_w_obj b3), hpre⟩ rfl hlen hl rfl (lv_room hW8) hd ⟨hR.1, hR.2⟩
  intro T hT X
  obtain ⟨v, st₀, t, T', L, h0, X', hL, e1, e2, ⟨⟨v', S', hv, hpl, hq, hP1, hK1, hD1⟩, hz, hk⟩, stp⟩ := run T hT X
  cases hv
  rw [h0] at hz hk
  obtain ⟨t2, w1, w2⟩ := kk v S' T'.heap (locs ++ L) hpl hq ⟨by rw [e1]; exact hP1, hD1.weaken (fun k q _ hh => hFr q.1 hh), ⟨Nat.le_trans hS.1 (by rw [e1]; exact hz), fun q h1 h2 => by rw [e1, hk q (Nat.lt_of_lt_of_le h1 hS.1) (fun z => h2 (hFr q z))]; exact hS.2.1 q h1 h2, fun q hq => by
      rcases List.mem_append.mp hq with h | h
      · exact hS.2.2 q h
      · exact hFr _ (hL q h)⟩⟩ (by rw [e1]; exact hz) (fun q h1 h2 => by rw [e1]; exact hk q h1 h2) T' rfl X'
  exact ⟨t2, stp t2 w1, w2⟩
end ZC
/-- what a throw of mean needs -/
abbrev x_E : String := "java/lang/ArithmeticException"
abbrev x_D (X : String) : MethodName := ⟨X, "<init>", "(Ljava/lang/String;)V"⟩
def x_V (U : State) : Prop := va_Nw (.castable x_E x_E) U ∧ va_Nw (.declares (x_D "java/lang/RuntimeException")) U ∧ va_Nw (.declares (x_D "java/lang/Exception")) U ∧ va_Nw (.declares (x_D Bundle.tN)) U
theorem x_V.warm {s U : State} (hW : s.WarmedH U.vm) (h : x_V s) : x_V U := ⟨va_Nw.warmC hW h.1, va_Nw.warmD hW h.2.1, va_Nw.warmD hW h.2.2.1, va_Nw.warmD hW h.2.2.2⟩
theorem x_V.same {u U : State} (hv : u.vm = U.vm) (h : x_V u) : x_V U := ⟨va_Nw.same rfl hv h.1, va_Nw.same rfl hv h.2.1, va_Nw.same rfl hv h.2.2.1, va_Nw.same rfl hv h.2.2.2⟩
def x_N (sa : Nat) (A : Nat → Prop) (U : State) (H : Heap) : Prop := vx_Zq Bundle.tN "UNASSIGNED_STACK" Bundle.steD A U H ∧ vx_Zq Bundle.tN "SUPPRESSED_SENTINEL" Bundle.listD A U H ∧ vk_R RX5 116 "no run behind the latest step" sa U ∧ x_V U
theorem x_N.warm {sa : Nat} {A : Nat → Prop} {s U : State} {H : Heap} (hW : s.WarmedH U.vm) (h : x_N sa A s H) : x_N sa A U H := ⟨vx_Zq.moved hW.alike h.1, vx_Zq.moved hW.alike h.2.1, vk_R.warm hW h.2.2.1, h.2.2.2.warm hW⟩
theorem x_N.same {sa : Nat} {A : Nat → Prop} {u U : State} {H : Heap} (hv : u.vm = U.vm) (h : x_N sa A u H) : x_N sa A U H := ⟨vx_Zq.moved (by rw [hv]; exact Vm.Alike.refl _) h.1, vx_Zq.moved (by rw [hv]; exact Vm.Alike.refl _) h.2.1, vk_R.same hv.symm h.2.2.1, h.2.2.2.same hv⟩
theorem x_N.kept {sa : Nat} {A : Nat → Prop} {U : State} {H H1 : Heap} (h : x_N sa A U H) (hq : ∀ a : Nat, a < H.size → ¬ A a → H1[a]? = H[a]?) : x_N sa A U H1 := ⟨h.1.kept hq, h.2.1.kept hq, h.2.2⟩
theorem x_N.narrow {sa : Nat} {A B : Nat → Prop} {U : State} {H : Heap} (h : x_N sa A U H) (hAB : ∀ q, B q → A q) : x_N sa B U H := ⟨h.1.narrow hAB, h.2.1.narrow hAB, h.2.2⟩
theorem x_at1 : ∀ w ∈ (vx_atS RX5 118 x_E ["java/lang/RuntimeException", "java/lang/Exception"]).filter goodWord, w ∈ lw_tbl := by decide +kernel
theorem x_at2 : ∀ w ∈ (vx_atS RX5 118 x_E ["java/lang/RuntimeException", "java/lang/Exception"]).filter (fun w => !goodWord w), w ∈ [Cond.castable x_E x_E, .declares (x_D "java/lang/RuntimeException"), .declares (x_D "java/lang/Exception"), .declares (x_D Bundle.tN)] := by decide +kernel
theorem x_at3 : ∀ w ∈ Cond.classLink RX5 114 x_E :: Cond.initialized x_E :: vx_atS RX5 118 x_E ["java/lang/RuntimeException", "java/lang/Exception"], vx_ot w = true := by decide +kernel
theorem x_w1 : Cond.classLink RX5 114 x_E ∈ m_gws := m_gw_in (k := 740) (by decide +kernel)
theorem x_w2 : Cond.initialized x_E ∈ m_gws := m_gw_in (k := 76) (by decide +kernel)
