section LC
variable {p : Program} {l : Launch} {e : Env} {R : Room} {s : State} {m : MethodId} {args : Array Value} {below : List Frame} {meth : Method} {c : Code} {H : Heap} {locs : List Loc} {cells slots : Nat} {Q : State → Prop}
variable {D : va_G} {ad : Nat → Nat} {cI cZ cJ : ClassId} {A : Nat → Prop} {cc : ByteArray} {pc : Nat} {ls : Array Slot} {nL : Nat} {Ts : List Cond} {own : String} {S : mS} {o : Nat} {g : Nat → Int64}
/-- the law's world: class and model, and its own array beside them -/
def l_S (D : va_G) (ad : Nat → Nat) (cI cZ cJ : ClassId) (A : Nat → Prop) (s : State) (H : Heap) (locs : List Loc) (S : mS) (o : Nat) (g : Nat → Int64) : Prop := va_P D vwCl (l_w ad cI cZ cJ S o g) H ∧ va_D A (l_w ad cI cZ cJ S o g) ∧ va_S A s.heap H locs
theorem l_D_S {S' : mS} (h : va_D A (l_w ad cI cZ cJ S o g)) (h' : va_D A (m_w ad cI cZ S')) : va_D A (l_w ad cI cZ cJ S' o g) := by
  refine h'.app ⟨fun i j p q hi hj _ => ?_, fun k q hk => ?_⟩ (fun i j p q hi hj e => ?_)
  · have a := (List.getElem?_eq_some_iff.mp hi).1
    have b := (List.getElem?_eq_some_iff.mp hj).1
    simp at a b
    omega
  · have a := (List.getElem?_eq_some_iff.mp hk).1
    simp at a
    subst a
    cases hk
    exact h.2 42 _ l_w_out
  · have b := (List.getElem?_eq_some_iff.mp hj).1
    simp at b
    subst b
    cases hj
    obtain ⟨e', he⟩ := m_w_addr (S' := S) hi
    rw [e] at he
    exact l_D_o h i e' he
theorem l_call {Qm : mQ} {M d ix : Nat} {as rest : List Value} (F : z_F p s m args c cc nL Ts own D ad cI cZ A) (hS0 : l_S D ad cI cZ cJ A s H locs S o g) (hE : Ev d M (.ref (m_ow M) :: as) S Qm) (hM : M < m_NM) (hst : m_is M = false)
    (hcat : ((Value.ref (m_ow M) :: as).map fun v => v.category).sum ≤ m_mx M) (hlk : Cond.methodLink own ix (m_y M) ∈ m_gws) (hn : as.length = m_np M) (hRm : d + 1 ≤ R.frames ∧ 8 + (m_mx M + 11) + 37 * d ≤ R.locals)
    (hl : ls.size = nL) (hW8 : (rest.map fun v => v.category).sum ≤ 8) (hR : cells ≤ R.cells ∧ slots ≤ R.slots) (hd : decode cc pc = .ok (.invokevirtual ix, 3))
    (kk : ∀ (v : Option Value) (S' : mS) (H1 : Heap) (locs1 : List Loc), Qm v S' → l_S D ad cI cZ cJ A s H1 locs1 S' o g → W p l e R s m args below meth c H1 locs1 cells slots Q (F0 m (pc + 3) ls (v.toList ++ rest))) :
    W p l e R s m args below meth c H locs cells slots Q (F0 m pc ls ((as.map (m_v ad)).reverse ++ .ref (ad (m_ow M)) :: rest)) := by
  obtain ⟨hP, hD, hS⟩ := hS0
  have hPo : va_P D vwCl [(o, .inl (cJ, 1, .inr (.inl g)))] H := l_P_r hP
  have hno : ¬ va_A (m_w ad cI cZ S) H.size o := by
    rintro (⟨k, e9, h⟩ | h)
    · exact l_D_o hD k e9 h
    · have : o < H.size := (hPo 0 _ rfl).lt
      omega
  refine z_call F (⟨l_P_l hP, l_D_l hD, hS⟩ : z_S D ad cI cZ A s H locs S) hE hM hst hcat hlk hn hRm hl hW8 hR hd (fun v S' H1 locs1 _ hq Z hz hk => ?_)
  obtain ⟨hP1, hD1, hS1⟩ := Z
  refine kk v S' H1 locs1 hq ⟨hP1.app (hPo.kept (fun k q hq => ?_)), l_D_S hD hD1, hS1⟩
  have : k = 0 := by have := (List.getElem?_eq_some_iff.mp hq).1; simp at this; exact this
  subst this
  cases hq
  exact hk o ((hPo 0 _ rfl).lt) hno
end LC
theorem and15 (z : Int32) : ∃ t, t < 16 ∧ z &&& 15 = nI t := by
  refine ⟨(z &&& 15).toBitVec.toNat, ?_, ?_⟩
  · rw [Int32.toBitVec_and, BitVec.toNat_and]
    exact Nat.lt_of_le_of_lt Nat.and_le_right (by decide)
  · refine Int32.toBitVec_inj.mp ?_
    show (z &&& 15).toBitVec = BitVec.ofNat 32 (z &&& 15).toBitVec.toNat
    rw [BitVec.ofNat_toNat, BitVec.setWidth_eq]
theorem sub6 {L n : Nat} (hL : L ≤ 3072) (hn : n ≤ 3072) : nI L - 6 < nI n ↔ L < n + 6 := by
  have e6 : (6 : Int32).toInt = 6 := rfl
  rw [Int32.lt_iff_toInt_lt, Int32.toInt_sub, nI_toInt (by omega), nI_toInt (by omega), e6, Int.bmod_eq_of_le (by omega) (by omega)]
  omega
theorem mean_eq {t r : Nat} (ht : t < 2 ^ 31) (hr : r < 2 ^ 31) (h0 : ¬ nI r = 0) : ((nI t).toInt64 / (nI r).toInt64).toInt32 = nI t / nI r := by
  have hr0 : r ≠ 0 := fun z => h0 (by rw [z]; rfl)
  have hd : t / r ≤ t := Nat.div_le_self t r
  refine Int32.toInt_inj.mp ?_
  rw [Int64.toInt_toInt32, Int64.toInt_div, Int32.toInt_div, nI_64 ht, nI_64 hr, nI_toInt ht, nI_toInt hr]
  have e : (t : Int).tdiv r = ((t / r : Nat) : Int) := by rw [Int.tdiv_eq_ediv_of_nonneg (by omega)]; rfl
  have hq : t / r < 2 ^ 31 := by omega
  rw [e]
  generalize t / r = q at hq
  have b64 : (q : Int).bmod (2 ^ 64) = (q : Int) := Int.bmod_eq_of_le (by omega) (by omega)
  have b32 : (q : Int).bmod (2 ^ 32) = (q : Int) := Int.bmod_eq_of_le (by omega) (by omega)
  rw [b64, b32]
