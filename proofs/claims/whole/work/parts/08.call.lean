theorem m_args_vl (ad : Nat → Nat) : ∀ (as : List Value) (k : Nat), lv_args k (as.map (m_v ad)) = m_vl ad (lv_args k as) := by
  intro as
  induction as with
  | nil => intro k; rfl
  | cons v vs ih =>
    intro k
    show (k, m_v ad v) :: lv_args (if (m_v ad v).category = 2 then k + 2 else k + 1) (vs.map (m_v ad)) = _
    rw [ih, m_v_cat]
    rfl
theorem m_sl_sum : ∀ (vs : List Value), (lg_sl vs).length = (vs.map fun v => v.category).sum := by
  intro vs
  induction vs with
  | nil => rfl
  | cons v vs ih =>
    have h1 : lg_sl (v :: vs) = (if v.category = 2 then [.val v, .second] else [.val v]) ++ lg_sl vs := by simp [lg_sl]
    rw [h1, List.length_append, ih, List.map_cons, List.sum_cons]
    rcases lv_cat v with h | h <;> simp [h]
theorem m_cat_map (ad : Nat → Nat) (vs : List Value) : ((vs.map (m_v ad)).map fun v => v.category).sum = (vs.map fun v => v.category).sum := by
  rw [List.map_map]
  congr 1
  apply List.map_congr_left
  intro v _
  exact m_v_cat ad v
/-- where a method of the mini machine begins -/
def m_Pc (D : va_G) (ad : Nat → Nat) (cI cZ : ClassId) (as : List Value) (S : mS) (sz : Nat) : Array Value → State → Prop :=
  va_Pc (as.map (m_v ad)) (fun U => U.heap.size = sz ∧ va_P D vwCl (m_w ad cI cZ S) U.heap ∧ va_K D vwCl (m_tys cI cZ) U ∧ va_D (fun _ => True) (m_w ad cI cZ S) ∧ m_St ad (va_A (m_w ad cI cZ S) sz) U U.heap ∧ m_Ns ad U)
theorem m_Pc_blind {D : va_G} {ad : Nat → Nat} {cI cZ : ClassId} {as : List Value} {S : mS} {sz : Nat} : FrameBlind (m_Pc D ad cI cZ as S sz) := by
  intro a U g mk q
  obtain ⟨q0, q1, qP, qK, qD, qS, qN⟩ := q
  exact ⟨q0, q1, qP, va_K.moved (u := U) (U := U.calling g mk a) (Vm.Alike.refl U.vm) qK, qD, m_St.moved (u := U) (U := U.calling g mk a) (Vm.Alike.refl U.vm) qS, m_Ns.same (u := U) (U := U.calling g mk a) rfl qN⟩
/-- the soundness of one place of the mini machine -/
def m_Snd (l : Launch) (D : va_G) (ad : Nat → Nat) (cI cZ : ClassId) : mX := fun d M pc ls st S Q =>
  M < m_NM → ∀ (p : Program) (e : Env) (s : State) (m : MethodId) (args : Array Value) (below : List Frame) (meth : Method) (c : Code) (A : Nat → Prop) (H : Heap) (locs : List Loc) (lsr : Array Slot),
    m_Cx p D ad cI cZ s m args meth c M A → va_P D vwCl (m_w ad cI cZ S) H → va_D A (m_w ad cI cZ S) → va_S A s.heap H locs → lv_has lsr (m_mx M) (m_vl ad ls) →
    W p l e (m_rm d) s m args below meth c H locs 0 0 (MQ below (m_Qc D ad cI cZ Q A) args s 0 0 A) (F0 m pc lsr (st.map (m_v ad)))
theorem m_Snd_mono (l : Launch) (D : va_G) (ad : Nat → Nat) (cI cZ : ClassId) : m_mono (m_Snd l D ad cI cZ) := by
  intro d M pc ls st S Q Q' hq h hM p e s m args below meth c A H locs lsr C hP hD hS hl T hT X
  obtain ⟨t, h1, o, h2, h3, ⟨⟨v, S', h4, h5, h6, h7⟩, h8⟩, h9⟩ := h hM p e s m args below meth c A H locs lsr C hP hD hS hl T hT X
  exact ⟨t, h1, o, h2, h3, ⟨⟨v, S', h4, h5, hq v S' h6, h7⟩, h8⟩, h9⟩
theorem m_okM_all {M : Nat} (h : M < m_NM) : m_cw M ∈ m_gws ∧ Cond.initialized (m_R (m_ow M)) ∈ m_gws ∧ (m_y M).cls = m_R (m_ow M) ∧ plainName (m_y M).cls = true ∧ (m_y M).cls ≠ "java/lang/invoke/MethodHandle" ∧ (m_y M).cls ≠ "java/lang/invoke/VarHandle" ∧ (parseMethodDescriptor (m_y M).desc).map (fun d => d.parameters.length) = some (m_np M) ∧ (m_is M = true → Cond.static (m_y M) ∈ m_gws) ∧ (m_is M = false → Cond.instanceMethod (m_y M) ∈ m_gws ∧ Cond.selects (m_R (m_ow M)) (m_y M) (m_y M) ∈ m_gws ∧ m_ow M < 7) ∧ m_mx M ≤ 18 := by
  obtain ⟨h1, hcw⟩ := ok_M h
  unfold m_okM at h1
  obtain ⟨h1, k9⟩ := m_and h1
  obtain ⟨h1, k8⟩ := m_and h1
  obtain ⟨h1, k7⟩ := m_and h1
  obtain ⟨h1, k6⟩ := m_and h1
  obtain ⟨h1, k5⟩ := m_and h1
  obtain ⟨h1, k4⟩ := m_and h1
  obtain ⟨h1, k3⟩ := m_and h1
  refine ⟨List.mem_filter.mpr ⟨hcw, m_cw_good M⟩, m_gw_in h1, of_decide_eq_true k3, k4, of_decide_eq_true k5, of_decide_eq_true k6, of_decide_eq_true k7, fun hi => ?_, fun hi => ?_, Nat.le_of_ble_eq_true k9⟩
  · rw [hi, cond_true] at k8
    exact m_gw_in k8
  · rw [hi, cond_false] at k8
    obtain ⟨k8, k10⟩ := m_and k8
    obtain ⟨k8, k11⟩ := m_and k8
    exact ⟨m_gw_in k8, m_gw_in k11, Nat.le_of_ble_eq_true k10⟩
/-- a method's contract out of the mini machine -/
theorem m_met {l : Launch} {D : va_G} {ad : Nat → Nat} {cI cZ : ClassId} {d M : Nat} {as : List Value} {S : mS} {Q : mQ} (hM : M < m_NM) (hcat : (as.map fun v => v.category).sum ≤ m_mx M) (h : m_Snd l D ad cI cZ d M 0 (lv_args 0 as) [] S Q) (sz : Nat) :
    Met l (m_y M) (m_ws M) (m_rm d) (m_Pc D ad cI cZ as S sz) (m_Qc D ad cI cZ Q (va_A (m_w ad cI cZ S) sz)) 0 0 (va_A (m_w ad cI cZ S) sz) := by
  obtain ⟨-, -, hcl, hpl, -⟩ := m_okM_all hM
  refine Met.ofW (cc := m_b M) (maxL := m_mx M) (ret := m_rt M) hpl rfl ?_
  intro p e s m args below meth c s₁ B hml hv
  obtain ⟨rfl, hsz, hP, hK, hD0, hSt, hNs⟩ := hv
  subst hsz
  have hown : s.vm.findClass (m_R (m_ow M)) = some m.cls := by rw [← hcl]; exact findClass_of_methodNamed B.named
  rw [lg_entry_eq]
  refine h hM p e s m _ below meth c _ s.heap [] _ ⟨B.exec, B.bytes, B.returns, hml, hown, atoms_spec (ws := m_ws M) B.pre, B.notSynchronized, hK, hSt, hNs, fun q hq => Or.inr hq⟩ hP hD0.self va_S.rf ?_
  rw [← m_args_vl]
  exact lv_entry _ (by rw [m_sl_sum, m_cat_map]; exact hcat)
theorem m_goodw {M : Nat} {w : Cond} (h : w ∈ m_gws) : w ∈ m_ws M ∧ ((w.onTables && w.keeps) = true ∨ ∃ ty, w = .arrayClass ty) := ⟨m_gws_ws h, good_of_word (List.mem_filter.mp h).2⟩
theorem m_good {M : Nat} {ws : List Cond} (h : ∀ w ∈ ws, w ∈ m_gws) : GoodIn (m_ws M) ws := fun w hw => m_goodw (h w hw)
theorem m_ws_gws {M : Nat} (hM : M < m_NM) : ∀ w ∈ m_ws M, w ∈ m_gws := by
  intro w hw
  rcases List.mem_cons.mp hw with h | h
  · rw [h]; exact (m_okM_all hM).1
  · exact h
section MSND3
variable {p : Program} {l : Launch} {e : Env} {R : Room} {s : State} {m : MethodId} {args : Array Value} {below : List Frame} {meth : Method} {c : Code} {H : Heap} {locs : List Loc} {Z : State → Prop}
variable {D : va_G} {ad : Nat → Nat} {cI cZ : ClassId} {A0 A1 : Nat → Prop} {a : Array Value} {H0 : Heap} {pc : Nat} {lsr : Array Slot} {st0 rest : List Value} {Q : mQ} {free : Addr → Prop}
/-- behind a call -/
theorem m_call (hr : va_Run p l e R s m args below meth c H locs 0 0 0 0 (F0 m pc lsr st0) rest (m_Qc D ad cI cZ Q A1 a) free) (hS : va_S A0 H0 H locs) (hA : ∀ q, q < H.size → A1 q → A0 q) (hf : ∀ q, free q → A0 q)
    (kk : ∀ (v : Option Value) (S' : mS) (t : State) (H1 : Heap) (locs1 : List Loc), t.heap = H1 → s.vm.Alike t.vm → m_pl v → Q v S' → va_P D vwCl (m_w ad cI cZ S') H1 → va_D A1 (m_w ad cI cZ S') → H.size ≤ H1.size → (∀ q : Nat, q < H.size → ¬ A1 q → H1[q]? = H[q]?) → va_S A0 H0 H1 locs1 → W p l e R s m args below meth c H1 locs1 0 0 Z (F0 m (pc + 3) lsr (v.toList ++ rest))) :
    W p l e R s m args below meth c H locs 0 0 Z (F0 m pc lsr st0) := by
  intro T hT X
  obtain ⟨v, st₀, t, T', L, h0, X', hL, e1, e2, ⟨⟨v', S', hv, hpl, hq, hP, hK, hD⟩, hz, hk⟩, stp⟩ := hr T hT X
  cases hv
  rw [h0] at hz hk
  obtain ⟨t2, a1, b1⟩ := kk v S' t T'.heap (locs ++ L) e1.symm (by rw [← e2]; exact X'.warmed.alike) hpl hq (by rw [e1]; exact hP) hD (by rw [e1]; exact hz) (fun q h1 h2 => by rw [e1]; exact hk q h1 h2)
    ⟨Nat.le_trans hS.1 (by rw [e1]; exact hz), fun q h1 h2 => by rw [e1, hk q (Nat.lt_of_lt_of_le h1 hS.1) (fun z => h2 (hA q (Nat.lt_of_lt_of_le h1 hS.1) z))]; exact hS.2.1 q h1 h2, fun q hq => by
      rcases List.mem_append.mp hq with h | h
      · exact hS.2.2 q h
      · exact hf _ (hL q h)⟩ T' rfl X'
  exact ⟨t2, stp t2 a1, b1⟩
end MSND3
theorem m_v_list {ad : Nat → Nat} {v : Option Value} (h : m_pl v) : v.toList.map (m_v ad) = v.toList := by
  cases v with
  | none => rfl
  | some x => show [m_v ad x] = [x]; rw [h x rfl ad]
theorem m_w_addr {ad : Nat → Nat} {cI cZ : ClassId} {S S' : mS} {k : Nat} {q : Nat × va_E} (h : (m_w ad cI cZ S)[k]? = some q) : ∃ e', (m_w ad cI cZ S')[k]? = some (q.1, e') := by
  unfold m_w at h ⊢
  by_cases hk : k < 7
  · rw [List.getElem?_append_left (by rw [m_wo_len]; exact hk), m_wo_at hk] at h
    rw [List.getElem?_append_left (by rw [m_wo_len]; exact hk), m_wo_at hk]
    cases h
    exact ⟨_, rfl⟩
  · rw [List.getElem?_append_right (by rw [m_wo_len]; omega), m_wo_len] at h
    rw [List.getElem?_append_right (by rw [m_wo_len]; omega), m_wo_len]
    unfold m_wa at h ⊢
    rw [List.getElem?_map] at h ⊢
    cases hx : m_ar[k - 7]? with
    | none => rw [hx] at h; cases h
    | some x => rw [hx] at h; cases h; exact ⟨_, rfl⟩
theorem m_A_le {ad : Nat → Nat} {cI cZ : ClassId} {S : mS} {A : Nat → Prop} {H0 H : Heap} {locs : List Loc} (hD : va_D A (m_w ad cI cZ S)) (hS : va_S A H0 H locs) (hA : ∀ q, H0.size ≤ q → A q) : ∀ q, va_A (m_w ad cI cZ S) H.size q → A q := by
  intro q h
  rcases h with ⟨k, e, h⟩ | h
  · exact hD.2 k (q, e) h
  · exact hA q (Nat.le_trans hS.1 h)
set_option maxHeartbeats 1000000 in
theorem m_i_snd {p : Program} {l : Launch} {e : Env} {s : State} {m : MethodId} {args : Array Value} {below : List Frame} {meth : Method} {c : Code} {H : Heap} {locs : List Loc} {Z : State → Prop} {D : va_G} {ad : Nat → Nat} {cI cZ : ClassId} {d M M' pc : Nat} {A : Nat → Prop} {lsr : Array Slot} {ls : mL} {st as r : List Value} {S : mS} {en : mE} {Q : mQ}
    (hok : m_oke M pc en = true) (hp : m_iv en st = some (M', as, r)) (hd0 : 0 < d) (h : m_Snd l D ad cI cZ (d - 1) M' 0 (lv_args 0 as) [] S Q) (C : m_Cx p D ad cI cZ s m args meth c M A) (hP : va_P D vwCl (m_w ad cI cZ S) H) (hD : va_D A (m_w ad cI cZ S)) (hS : va_S A s.heap H locs) (hl : lv_has lsr (m_mx M) (m_vl ad ls))
    (kk : ∀ (v : Option Value) (S' : mS) (H1 : Heap) (locs1 : List Loc), Q v S' → va_P D vwCl (m_w ad cI cZ S') H1 → va_D A (m_w ad cI cZ S') → va_S A s.heap H1 locs1 → W p l e (m_rm d) s m args below meth c H1 locs1 0 0 Z (F0 m en.2.1 lsr ((v.toList ++ r).map (m_v ad)))) :
    W p l e (m_rm d) s m args below meth c H locs 0 0 Z (F0 m pc lsr (st.map (m_v ad))) := by
  obtain ⟨hx, hb, -, hml, hown, hts, -, hK, hSt, hNs, hA⟩ := C
  obtain ⟨hd, hk⟩ := m_ok1 hok
  have hFr := m_A_le hD hS hA
  have hpre : ∀ U : State, U.heap = H → s.WarmedH U.vm → m_Pc D ad cI cZ as S H.size (as.map (m_v ad)).toArray U := fun U hU hW =>
    ⟨rfl, by rw [hU], by rw [hU]; exact hP, va_K.moved hW.alike hK, hD.weaken (fun _ _ _ _ => trivial), by rw [hU]; exact m_St.moved hW.alike ((hSt.kept hS.2.1).narrow hFr), m_Ns.warm hW hNs⟩
  obtain ⟨i, nx, ex, c1, c2⟩ := en
  dsimp only at hd kk
  have kk2 : ∀ (hnx : nx = pc + 3) (v : Option Value) (S' : mS) (t : State) (H1 : Heap) (locs1 : List Loc), t.heap = H1 → s.vm.Alike t.vm → m_pl v → Q v S' → va_P D vwCl (m_w ad cI cZ S') H1 → va_D (va_A (m_w ad cI cZ S) H.size) (m_w ad cI cZ S') → H.size ≤ H1.size → (∀ q : Nat, q < H.size → ¬ va_A (m_w ad cI cZ S) H.size q → H1[q]? = H[q]?) → va_S A s.heap H1 locs1 → W p l e (m_rm d) s m args below meth c H1 locs1 0 0 Z (F0 m (pc + 3) lsr (v.toList ++ r.map (m_v ad))) := by
    intro hnx v S' t H1 locs1 _ _ hpl hq hP1 hD1 _ _ hS1
    have := kk v S' H1 locs1 hq hP1 (hD1.weaken (fun k q _ hh => hFr q.1 hh)) hS1
    rw [List.map_append, m_v_list hpl, hnx] at this
    exact this
  simp only [m_iv] at hp
  split at hp
  · next ix =>
    split at hp
    · next M0 =>
      obtain ⟨h0, hz⟩ := m_bif hp
      cases hz
      obtain ⟨h0, hb4⟩ := m_and h0
      obtain ⟨h0, hb3⟩ := m_and h0
      obtain ⟨hb1, hb2⟩ := m_and h0
      obtain ⟨hk4, hk3⟩ := m_and hk
      obtain ⟨hk5, hk2⟩ := m_and hk4
      obtain ⟨hd1, hnx⟩ := m_dec hd hk3
      have hM' := Nat.le_of_ble_eq_true hk2
      obtain ⟨a1, a2, a3, a4, a5, a6, a7, a8, a9, a10⟩ := m_okM_all (M := M') hM'
      have hlen : m_np M' ≤ st.length := Nat.le_of_ble_eq_true hb2
      have hcat : (((st.take (m_np M')).reverse).map fun v => v.category).sum ≤ m_mx M' := by
        rw [List.map_reverse, List.sum_reverse]
        exact Nat.le_of_ble_eq_true hb4
      have hMet := m_met hM' hcat h H.size
      have hn : (((st.take (m_np M')).reverse).map (m_v ad)).length = m_np M' := by simp [hlen]
      have hstk : st.map (m_v ad) = (((st.take (m_np M')).reverse).map (m_v ad)).reverse ++ (st.drop (m_np M')).map (m_v ad) := by
        rw [← List.map_reverse, List.reverse_reverse, ← List.map_append, List.take_append_drop]
      have hW8 : 2 * (F0 m pc lsr (st.map (m_v ad))).monitorRoom + ((((st.drop (m_np M')).map (m_v ad))).map fun v => v.category).sum ≤ 8 := by
        rw [m_cat_map]
        exact lv_room (m := m) (pc := pc) (ls := lsr) (rest := st.map (m_v ad)) (Nat.le_of_ble_eq_true hb3)
      have hRm : (m_rm (d - 1)).frames + 1 ≤ (m_rm d).frames ∧ 8 + (m_mx M' + 11) + (m_rm (d - 1)).locals ≤ (m_rm d).locals := by
        show d - 1 + 1 ≤ d ∧ 8 + (m_mx M' + 11) + 37 * (d - 1) ≤ 37 * d
        omega
      rcases (Bool.or_eq_true _ _).mp hk5 with hk1 | hk1
      · have hf := m_ml_word (of_decide_eq_true hk1)
        refine m_call (va_runS (As := ((st.take (m_np M')).reverse).map (m_v ad)) ⟨hx, hb, hml, hown, hts⟩ hMet (va_cwS (index := ix) (m_np M') hts (m_good (fun w hw => ?_)) rfl rfl rfl ⟨a5, a6, a7⟩ hRm) ⟨m_Pc_blind, hpre⟩ rfl hn hl.1 hstk hW8 hd1 ⟨Nat.zero_le _, Nat.zero_le _⟩) hS (fun q _ hq => hFr q hq) hFr (kk2 hnx)
        unfold va_wsS at hw
        rcases List.mem_append.mp hw with hw | hw
        · rcases List.mem_cons.mp hw with rfl | hw
          · exact hf
          rcases List.mem_cons.mp hw with rfl | hw
          · exact a8 hb1
          rcases List.mem_cons.mp hw with rfl | hw
          · rw [a3]; exact a2
          · cases hw
        · exact m_ws_gws hM' w hw
      · have hm : (m_ow M, ix, M', 1) ∈ m_ML := of_decide_eq_true hk1
        have hnw : va_Nw (.methodLinkNest (m_R (m_ow M)) ix (m_y M') "NullKinds") s := hNs.2.1 (m_ow M, ix, M', 1) hm rfl
        have hini : (Cond.initialized (m_y M').cls).before args s = true := by rw [a3]; exact hts _ (m_gws_ws a2)
        have hsta : (Cond.static (m_y M')).before args s = true := hts _ (m_gws_ws (a8 hb1))
        refine m_call (va_runSN (As := ((st.take (m_np M')).reverse).map (m_v ad)) ⟨hx, hb, hml, hown, hts⟩ hMet ⟨va_cnB (index := ix) (m_np M') hts (m_good (m_ws_gws hM')) rfl rfl rfl hnw hini ⟨a5, a6, a7⟩ hRm, hsta, trivial⟩ ⟨m_Pc_blind, hpre⟩ rfl hn hl.1 hstk hW8 hd1 ⟨Nat.zero_le _, Nat.zero_le _⟩) hS (fun q _ hq => hFr q hq) hFr (kk2 hnx)
    · cases hp
  · next ix =>
    split at hp
    · next M0 a0 r0 hdrop =>
      obtain ⟨h0, hz⟩ := m_bif hp
      cases hz
      obtain ⟨h0, hb5⟩ := m_and h0
      obtain ⟨h0, hb4⟩ := m_and h0
      obtain ⟨h0, hb3⟩ := m_and h0
      obtain ⟨hb1, hb2⟩ := m_and h0
      have hst : m_is M' = false := by simpa using hb1
      have ha0 := Nat.eq_of_beq_eq_true hb2
      subst ha0
      obtain ⟨hk4, hk3⟩ := m_and hk
      obtain ⟨hd1, hnx⟩ := m_dec hd hk3
      have hkk : (m_ow M, ix, M', 0) ∈ m_ML ∧ M' < m_NM := by
        rcases (Bool.or_eq_true _ _).mp hk4 with hk1 | hk1
        · obtain ⟨h1, h2⟩ := m_and hk1
          exact ⟨of_decide_eq_true h1, Nat.le_of_ble_eq_true h2⟩
        · obtain ⟨h1, h2⟩ := m_and hk1
          have := Nat.eq_of_beq_eq_true h1
          subst this
          exact absurd hst (by decide +kernel)
      obtain ⟨hmem, hM'⟩ := hkk
      obtain ⟨a1, a2, a3, a4, a5, a6, a7, a8, a9, a10⟩ := m_okM_all (M := M') hM'
      obtain ⟨b1, b2, b3⟩ := a9 hst
      have hlen : m_np M' ≤ st.length := Nat.le_of_ble_eq_true hb3
      have hcat : ((Value.ref (m_ow M') :: (st.take (m_np M')).reverse).map fun v => v.category).sum ≤ m_mx M' := by
        rw [List.map_cons, List.sum_cons, List.map_reverse, List.sum_reverse, Nat.add_comm]
        exact Nat.le_of_ble_eq_true hb5
      have hMet := m_met hM' hcat h H.size
      have hn : (((st.take (m_np M')).reverse).map (m_v ad)).length = m_np M' := by simp [hlen]
      have hstk : st.map (m_v ad) = (((st.take (m_np M')).reverse).map (m_v ad)).reverse ++ .ref (ad (m_ow M')) :: r.map (m_v ad) := by
        have hdrop' : st.drop (m_np M') = Value.ref (m_ow M') :: r := hdrop
        rw [← List.map_reverse, List.reverse_reverse]
        have : (Value.ref (ad (m_ow M')) :: r.map (m_v ad)) = (st.drop (m_np M')).map (m_v ad) := by rw [hdrop']; rfl
        rw [this, ← List.map_append, List.take_append_drop]
      have hW8 : 2 * (F0 m pc lsr (st.map (m_v ad))).monitorRoom + ((r.map (m_v ad)).map fun v => v.category).sum ≤ 8 := by
        rw [m_cat_map]
        exact lv_room (m := m) (pc := pc) (ls := lsr) (rest := st.map (m_v ad)) (Nat.le_of_ble_eq_true hb4)
      have hRm : (m_rm (d - 1)).frames + 1 ≤ (m_rm d).frames ∧ 8 + (m_mx M' + 11) + (m_rm (d - 1)).locals ≤ (m_rm d).locals := by
        show d - 1 + 1 ≤ d ∧ 8 + (m_mx M' + 11) + 37 * (d - 1) ≤ 37 * d
        omega
      have hf := m_ml_word hmem
      refine m_call (va_runV (C := m_R (m_ow M')) (As := ((st.take (m_np M')).reverse).map (m_v ad)) ⟨hx, hb, hml, hown, hts⟩ hMet (cwV (index := ix) (m_np M') hts (m_good (fun w hw => ?_)) rfl rfl rfl ⟨a3, a5, a6, a7⟩ hRm) ⟨m_Pc_blind, va_recv hK hP (m_cl b3) (m_w_obj b3), hpre⟩ rfl hn hl.1 hstk hW8 hd1 ⟨Nat.zero_le _, Nat.zero_le _⟩) hS (fun q _ hq => hFr q hq) hFr (kk2 hnx)
      unfold wsV at hw
      rcases List.mem_append.mp hw with hw | hw
      · rcases List.mem_cons.mp hw with rfl | hw
        · exact hf
        rcases List.mem_cons.mp hw with rfl | hw
        · exact b1
        rcases List.mem_cons.mp hw with rfl | hw
        · exact b2
        rcases List.mem_cons.mp hw with rfl | hw
        · exact a2
        · cases hw
      · exact m_ws_gws hM' w hw
    · cases hp
  · cases hp
