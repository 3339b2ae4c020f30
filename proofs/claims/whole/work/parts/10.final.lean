theorem m_DL_only {o ix : Nat} (h : (o, ix) ∈ m_DL) : o = 3 ∧ ix = 33 := by
  unfold m_DL at h
  rcases List.mem_cons.mp h with h | h
  · cases h; exact ⟨rfl, rfl⟩
  · cases h
set_option maxHeartbeats 1000000 in
set_option maxRecDepth 100000 in
theorem m_c_snd {p : Program} {l : Launch} {e : Env} {s : State} {m : MethodId} {args : Array Value} {below : List Frame} {meth : Method} {c : Code} {H : Heap} {locs : List Loc} {Z : State → Prop} {D : va_G} {ad : Nat → Nat} {cI cZ : ClassId} {d M pc a : Nat} {x : Int32} {A : Nat → Prop} {lsr : Array Slot} {ls : mL} {st r : List Value} {en : mE}
    (hok : m_oke M pc en = true) (hp : m_cr en st = some (a, x, r)) (hd4 : 4 ≤ d) (hi : vp_in x 24) (C : m_Cx p D ad cI cZ s m args meth c M A) (hS : va_S A s.heap H locs) (hl : lv_has lsr (m_mx M) (m_vl ad ls))
    (kk : W p l e (m_rm d) s m args below meth c H locs 0 0 Z (F0 m en.2.1 lsr ((Value.int (m_ch a x) :: r).map (m_v ad)))) :
    W p l e (m_rm d) s m args below meth c H locs 0 0 Z (F0 m pc lsr (st.map (m_v ad))) := by
  obtain ⟨hx, hb, -, hml, hown, hts, -, hK, hSt, hNs, hA⟩ := C
  obtain ⟨hd, hk⟩ := m_ok1 hok
  have hSt' := hSt.kept hS.2.1
  obtain ⟨i, nx, ex, c1, c2⟩ := en
  dsimp only at hd kk
  cases i
  case invokevirtual ix =>
    simp only [m_cr] at hp
    split at hp
    · next x0 a0 r0 =>
      obtain ⟨h0, hz⟩ := m_bif hp
      cases hz
      obtain ⟨h1, h2⟩ := m_and h0
      obtain ⟨h3, h4⟩ := m_and h1
      have ha1 : a < 603 := Nat.le_of_ble_eq_true h3
      have ha2 : 599 < a := Nat.le_of_ble_eq_true h4
      obtain ⟨hk1, hk2⟩ := m_and hk
      obtain ⟨hd1, hnx⟩ := m_dec hd hk2
      have hmem : (m_ow M, ix) ∈ m_DL := by
        rcases (Bool.or_eq_true _ _).mp hk1 with z | z
        · obtain ⟨-, z2⟩ := m_and z
          exact absurd z2 (by decide +kernel)
        · exact of_decide_eq_true (m_and z).2
      obtain ⟨ho, hix⟩ := m_DL_only hmem
      subst hix
      rw [ho] at hown
      obtain ⟨g, rfl⟩ : ∃ g, a = 600 + g := ⟨a - 600, by omega⟩
      have hg3 : g < 3 := by omega
      have hRm : (m_rm 3).frames + 1 ≤ (m_rm d).frames ∧ 8 + (2 + 11) + (m_rm 3).locals ≤ (m_rm d).locals := by
        show 3 + 1 ≤ d ∧ 8 + (2 + 11) + 37 * 3 ≤ 37 * d
        omega
      have hW8 : 2 * (F0 m pc lsr ((Value.int x :: .ref (600 + g) :: r).map (m_v ad))).monitorRoom + ((r.map (m_v ad)).map fun v => v.category).sum ≤ 8 := by
        rw [m_cat_map]
        exact lv_room (m := m) (pc := pc) (ls := lsr) (rest := (Value.int x :: .ref (600 + g) :: r).map (m_v ad)) (Nat.le_of_ble_eq_true h2)
      have hch : m_ch (600 + g) x = (m_chs.getD g []).getD x.toNatClampNeg 0 := by
        unfold m_ch
        rw [Nat.add_sub_cancel_left]
      refine vp_callSi (W.runV (C := RJ0) (As := [.int x]) (rest := r.map (m_v ad)) ⟨hx, hb, hml, hown, hts⟩ (c_chr l A ad g hg3 x hi) (cwV (own := RX3) (index := 33) 1 hts (m_good (jall4 jl_chr ji_chr je_chr jn_0 (jallc jc_chr jself))) rfl rfl rfl (by decide +kernel) hRm) ⟨fun q U g9 mk z => ⟨z.1, j_Px.moved (u := U) (U := U.calling g9 mk q) (Vm.Alike.refl U.vm) rfl z.2⟩, vk_recv hSt.2.2.1 hg3 hS, fun U hU hW => ⟨rfl, by rw [hU]; exact va_Z.moved hW.alike hSt'.2.1, by rw [hU]; exact vk_S.moved hW.alike hSt'.2.2.1, by rw [hU]; exact va_Zq.moved hW.alike hSt'.2.2.2⟩⟩ rfl rfl hl.1 rfl hW8 hd1 ⟨Nat.zero_le _, Nat.zero_le _⟩) (fun r1 hr1 => ?_)
      subst hr1
      rw [hch, hnx] at kk
      exact kk
    · cases hp
  all_goals (cases hp)
set_option maxHeartbeats 1000000 in
/-- what the mini machine does, the machine does -/
theorem m_snd_closed (l : Launch) (D : va_G) (ad : Nat → Nat) (cI cZ : ClassId) : ∀ d M pc ls st S Q, m_T (m_Snd l D ad cI cZ) d M pc ls st S Q → m_Snd l D ad cI cZ d M pc ls st S Q := by
  intro d M pc ls st S Q h hM p e s m args below meth c A H locs lsr C hP hD hS hl
  unfold m_T at h
  cases hc : m_code M pc with
  | none => rw [hc] at h; exact h.elim
  | some en =>
    rw [hc] at h
    dsimp only at h
    have hok := ok_code hM hc
    cases hp : m_p en ls st S with
    | some z =>
      obtain ⟨pc', ls', st', S'⟩ := z
      rw [hp] at h
      exact m_p_snd hok hp C hP hD hS hl (fun H' locs' lsr' h1 h2 h3 h4 => h hM p e s m args below meth c A H' locs' lsr' C h1 h2 h3 h4)
    | none =>
      rw [hp] at h
      dsimp only at h
      cases hbr : m_br en st with
      | some z =>
        obtain ⟨P, t, r⟩ := z
        rw [hbr] at h
        exact m_b_snd hok hbr C (fun q => h.1 q hM p e s m args below meth c A H locs lsr C hP hD hS hl) (fun q => h.2 q hM p e s m args below meth c A H locs lsr C hP hD hS hl)
      | none =>
        rw [hbr] at h
        dsimp only at h
        cases hg : m_g en st S with
        | some z =>
          obtain ⟨G, st', S'⟩ := z
          rw [hg] at h
          exact m_g_snd hok hg h.1 C hP hD hS (fun H' locs' h1 h2 h3 => h.2 hM p e s m args below meth c A H' locs' lsr C h1 h2 h3 hl)
        | none =>
          rw [hg] at h
          dsimp only at h
          cases hr : m_rv en st with
          | some z =>
            obtain ⟨G, v⟩ := z
            rw [hr] at h
            exact m_r_snd hok hr h.1 h.2 C hP hD hS
          | none =>
            rw [hr] at h
            dsimp only at h
            cases hcr : m_cr en st with
            | some z =>
              obtain ⟨a, x, r⟩ := z
              rw [hcr] at h
              exact m_c_snd hok hcr h.1 h.2.1 C hS hl (h.2.2 hM p e s m args below meth c A H locs lsr C hP hD hS hl)
            | none =>
              rw [hcr] at h
              dsimp only at h
              cases hiv : m_iv en st with
              | some z =>
                obtain ⟨M', as, r⟩ := z
                rw [hiv] at h
                exact m_i_snd hok hiv h.1 h.2 C hP hD hS hl (fun v S' H1 locs1 hq h1 h2 h3 => hq hM p e s m args below meth c A H1 locs1 lsr C h1 h2 h3 hl)
              | none => rw [hiv] at h; exact h.elim
/-- a method's contract: any answer of the mini machine is the machine's -/
theorem Wp.met {d M : Nat} {as : List Value} {S : mS} {Q : mQ} (h : Ev d M as S Q) (hM : M < m_NM) (hcat : (as.map fun v => v.category).sum ≤ m_mx M) (l : Launch) (D : va_G) (ad : Nat → Nat) (cI cZ : ClassId) (sz : Nat) :
    Met l (m_y M) (m_ws M) (m_rm d) (m_Pc D ad cI cZ as S sz) (m_Qc D ad cI cZ Q (va_A (m_w ad cI cZ S) sz)) 0 0 (va_A (m_w ad cI cZ S) sz) :=
  m_met hM hcat (h _ (m_Snd_mono l D ad cI cZ) (m_snd_closed l D ad cI cZ)) sz
