def m_tys (cI cZ : ClassId) : List (ClassId × FieldType) := [(cI, .int), (cZ, .boolean)]
/-- what nobody writes: the static tables, the texts -/
def m_St (ad : Nat → Nat) (A : Nat → Prop) (U : State) (H : Heap) : Prop :=
  (∀ g, 499 < g → g < 503 → va_Z "NullKinds" (m_sn g) "[I" (.ref (ad g)) A U H ∧ va_T .int (ad g) (m_len g) (fun j => .int (m_sv g j)) A U H) ∧
  va_Z "java/lang/String" "COMPACT_STRINGS" "Z" (.int 1) A U H ∧ vk_S 3 [24, 24, 24] m_chs (fun i => ad (600 + i)) (fun i => ad (700 + i)) A U H ∧ va_Zq "jdk/internal/util/Preconditions" "SIOOBE_FORMATTER" "Ljava/util/function/BiFunction;" A U H
theorem m_St.moved {ad : Nat → Nat} {A : Nat → Prop} {u U : State} {H : Heap} (hvm : u.vm.Alike U.vm) (h : m_St ad A u H) : m_St ad A U H :=
  ⟨fun g h1 h2 => ⟨va_Z.moved hvm (h.1 g h1 h2).1, va_T.moved hvm (h.1 g h1 h2).2⟩, va_Z.moved hvm h.2.1, vk_S.moved hvm h.2.2.1, va_Zq.moved hvm h.2.2.2⟩
theorem m_St.kept {ad : Nat → Nat} {A : Nat → Prop} {U : State} {H H1 : Heap} (h : m_St ad A U H) (hq : ∀ a : Nat, a < H.size → ¬ A a → H1[a]? = H[a]?) : m_St ad A U H1 :=
  ⟨fun g h1 h2 => ⟨(h.1 g h1 h2).1.kept hq, (h.1 g h1 h2).2.kept hq⟩, h.2.1.kept hq, h.2.2.1.kept hq, h.2.2.2.kept hq⟩
theorem m_St.narrow {ad : Nat → Nat} {A B : Nat → Prop} {U : State} {H : Heap} (h : m_St ad A U H) (hAB : ∀ q, B q → A q) : m_St ad B U H :=
  ⟨fun g h1 h2 => ⟨(h.1 g h1 h2).1.narrow hAB, (h.1 g h1 h2).2.narrow hAB⟩, h.2.1.narrow hAB, h.2.2.1.narrow hAB, h.2.2.2.narrow hAB⟩
def m_txt (g : Nat) : String := bif Nat.beq g 600 then "VVVVVVVVVVVNNNNVNNNNS-VN" else bif Nat.beq g 601 then "-KAVT-TVVVVVVVVN-NNN--V-" else "--N-SSV--NN---NN---S--N-"
/-- links between nest mates, and the texts' links -/
def m_Ns (ad : Nat → Nat) (U : State) : Prop :=
  (∀ q ∈ m_FL, q.2.2.2.2 = 1 → va_Nw (.fieldLinkNest (m_R q.1) q.2.1 (m_Tt q.2.2.1 q.2.2.2.1).1 (m_Tt q.2.2.1 q.2.2.2.1).2.1 (m_Tt q.2.2.1 q.2.2.2.1).2.2.1 "NullKinds") U) ∧
  (∀ q ∈ m_ML, q.2.2.2 = 1 → va_Nw (.methodLinkNest (m_R q.1) q.2.1 (m_y q.2.2.1) "NullKinds") U) ∧
  (∀ q ∈ m_SL, va_Nw (.fieldLinkNest (m_R q.1) q.2.1 "NullKinds" (m_sn q.2.2) "[I" "NullKinds") U) ∧
  (∀ q ∈ [(31, 600), (43, 601), (45, 602)], vk_R (m_R 3) q.1 (m_txt q.2) (ad q.2) U)
theorem m_Ns.warm {ad : Nat → Nat} {s U : State} (hW : s.WarmedH U.vm) (h : m_Ns ad s) : m_Ns ad U :=
  ⟨fun q hq h1 => va_Nw.warmF hW (h.1 q hq h1), fun q hq h1 => va_Nw.warmM hW (h.2.1 q hq h1), fun q hq => va_Nw.warmF hW (h.2.2.1 q hq), fun q hq => vk_R.warm hW (h.2.2.2 q hq)⟩
theorem m_Ns.same {ad : Nat → Nat} {u U : State} (hv : u.vm = U.vm) (h : m_Ns ad u) : m_Ns ad U :=
  ⟨fun q hq h1 => va_Nw.same rfl hv (h.1 q hq h1), fun q hq h1 => va_Nw.same rfl hv (h.2.1 q hq h1), fun q hq => va_Nw.same rfl hv (h.2.2.1 q hq), fun q hq => vk_R.same hv.symm (h.2.2.2 q hq)⟩
def m_rm (d : Nat) : Room := { frames := d, cells := 0, slots := 0, locals := 37 * d }
/-- what stands fixed while method M runs -/
def m_Cx (p : Program) (D : va_G) (ad : Nat → Nat) (cI cZ : ClassId) (s : State) (m : MethodId) (args : Array Value) (meth : Method) (c : Code) (M : Nat) (A : Nat → Prop) : Prop :=
  p.tables.exec = Jvm.exec ∧ c.code = m_b M ∧ meth.sig.returnType = m_rt M ∧ c.maxLocals = m_mx M ∧ s.vm.findClass (m_R (m_ow M)) = some m.cls ∧ (∀ w ∈ m_ws M, w.before args s = true) ∧ meth.locks = false ∧ va_K D vwCl (m_tys cI cZ) s ∧ m_St ad A s s.heap ∧ m_Ns ad s ∧ (∀ q, s.heap.size ≤ q → A q)
/-- an answer that is no reference -/
def m_pl (v : Option Value) : Prop := ∀ x, v = some x → ∀ ad, m_v ad x = x
def m_Qc (D : va_G) (ad : Nat → Nat) (cI cZ : ClassId) (Q : mQ) (A : Nat → Prop) : Array Value → State → Outcome → State → Prop := fun _ st oc t =>
  (∃ (v : Option Value) (S' : mS), oc = .returned v ∧ m_pl v ∧ Q v S' ∧ va_P D vwCl (m_w ad cI cZ S') t.heap ∧ va_K D vwCl (m_tys cI cZ) t ∧ va_D A (m_w ad cI cZ S')) ∧ va_F A st t
theorem m_ok1 {M pc : Nat} {e : mE} (h : m_oke M pc e = true) : decode (m_b M) pc = .ok (e.1, e.2.1 - pc) ∧ m_okx M pc e = true := by
  unfold m_oke at h
  rw [Bool.and_eq_true, Bool.and_eq_true] at h
  exact ⟨of_decide_eq_true h.1.1, h.2⟩
theorem m_dec {b : ByteArray} {pc nx len : Nat} {i : Instr} (h : decode b pc = .ok (i, nx - pc)) (hn : Nat.beq nx (pc + len) = true) : decode b pc = .ok (i, len) ∧ nx = pc + len := by
  have := Nat.eq_of_beq_eq_true hn
  subst this
  rw [Nat.add_sub_cancel_left] at h
  exact ⟨h, rfl⟩
theorem m_and {a b : Bool} (h : (a && b) = true) : a = true ∧ b = true := by
  cases a <;> cases b <;> first | exact ⟨rfl, rfl⟩ | cases h
theorem m_cl {c : Nat} (h : c < 7) : vwCl[c]? = some (m_R c, m_Tt c, m_nf c) := by
  match c, h with
  | 0, _ => rfl
  | 1, _ => rfl
  | 2, _ => rfl
  | 3, _ => rfl
  | 4, _ => rfl
  | 5, _ => rfl
  | 6, _ => rfl
theorem m_okC_at {c : Nat} (h : c < 7) : m_okC c = true := List.all_eq_true.mp ok_C c (List.mem_range.mpr h)
theorem m_uws {c : Nat} (h : c < 7) : ∀ w ∈ u_ws (m_R c) (m_Tt c) (m_nf c), w ∈ m_gws := by
  intro w hw
  have h1 := m_okC_at h
  unfold m_okC at h1
  obtain ⟨h1, -⟩ := m_and h1
  obtain ⟨h1, -⟩ := m_and h1
  obtain ⟨h1, -⟩ := m_and h1
  obtain ⟨k, hk, rfl⟩ := List.mem_map.mp hw
  exact m_gw_in (List.all_eq_true.mp h1 k hk)
theorem m_tyok {c : Nat} (h : c < 7) : ∀ k, k < m_nf c → parseFieldDescriptor (m_Tt c k).2.2.1 = some (m_ty c k) := by
  intro k hk
  have h1 := m_okC_at h
  unfold m_okC at h1
  obtain ⟨h1, -⟩ := m_and h1
  obtain ⟨h1, -⟩ := m_and h1
  obtain ⟨-, h1⟩ := m_and h1
  exact of_decide_eq_true (m_and (List.all_eq_true.mp h1 k (List.mem_range.mpr hk))).1
theorem m_kdok {c : Nat} (h : c < 7) : ∀ k, k < m_nf c → m_kd c k = true := by
  intro k hk
  have h1 := m_okC_at h
  unfold m_okC at h1
  obtain ⟨h1, -⟩ := m_and h1
  obtain ⟨h1, -⟩ := m_and h1
  obtain ⟨-, h1⟩ := m_and h1
  exact (m_and (List.all_eq_true.mp h1 k (List.mem_range.mpr hk))).2
theorem m_nmok {c : Nat} (h : c < 7) : ∀ a, a < m_nf c → ∀ b, b < m_nf c → a ≠ b → (m_Tt c a).2.1 ≠ (m_Tt c b).2.1 := by
  intro a ha b hb hne
  have h1 := m_okC_at h
  unfold m_okC at h1
  obtain ⟨h1, -⟩ := m_and h1
  obtain ⟨-, h1⟩ := m_and h1
  have h2 := List.all_eq_true.mp (List.all_eq_true.mp h1 a (List.mem_range.mpr ha)) b (List.mem_range.mpr hb)
  rw [Bool.or_eq_true] at h2
  rcases h2 with h2 | h2
  · exact absurd (Nat.eq_of_beq_eq_true h2) hne
  · exact of_decide_eq_true h2
theorem m_FLok {q : Nat × Nat × Nat × Nat × Nat} (h : q ∈ m_FL) : ∃ n, m_okF (q, n) = true := by
  obtain ⟨x, hx, rfl⟩ := List.mem_map.mp h
  exact ⟨x.2, List.all_eq_true.mp ok_F x hx⟩
theorem m_MLok {q : Nat × Nat × Nat × Nat} (h : q ∈ m_ML) : ∃ n, m_okL (q, n) = true := by
  obtain ⟨x, hx, rfl⟩ := List.mem_map.mp h
  exact ⟨x.2, List.all_eq_true.mp ok_L x hx⟩
theorem m_LLok {q : Nat × Nat × Int64} (h : q ∈ m_LL) : Cond.constantLong (m_R q.1) q.2.1 q.2.2 ∈ m_gws := by
  obtain ⟨x, hx, rfl⟩ := List.mem_map.mp h
  exact m_gw_in (List.all_eq_true.mp ok_J x hx)
theorem m_SLok {q : Nat × Nat × Nat} (h : q ∈ m_SL) : 499 < q.2.2 ∧ q.2.2 < 503 := by
  obtain ⟨x, hx, rfl⟩ := List.mem_map.mp h
  have h1 := List.all_eq_true.mp ok_S x hx
  unfold m_okS at h1
  obtain ⟨h1, h2⟩ := m_and h1
  obtain ⟨-, h1⟩ := m_and h1
  exact ⟨Nat.le_of_ble_eq_true h1, Nat.le_of_ble_eq_true h2⟩
theorem m_gws_ws {M : Nat} {w : Cond} (h : w ∈ m_gws) : w ∈ m_ws M := List.mem_cons_of_mem _ h
-- what the steps want of the stack
theorem m_2_inv {f : Int32 → Int32 → Int32} {nx : Nat} {ls : mL} {S : mS} {st : List Value} {z : Nat × mL × List Value × mS} (h : m_2 f nx ls S st = some z) : ∃ x y r, st = .int y :: .int x :: r ∧ z = (nx, ls, .int (f x y) :: r, S) := by
  unfold m_2 at h
  split at h
  · next y x r => cases h; exact ⟨x, y, r, rfl, rfl⟩
  · cases h
theorem m_li_inv {nx : Nat} {ls : mL} {st : List Value} {S : mS} {o : Option Value} {z : Nat × mL × List Value × mS} (h : m_li nx ls st S o = some z) : ∃ x, o = some (.int x) ∧ z = (nx, ls, .int x :: st, S) := by
  unfold m_li at h
  split at h
  · next x => cases h; exact ⟨x, rfl, rfl⟩
  · cases h
theorem m_ll_inv {nx : Nat} {ls : mL} {st : List Value} {S : mS} {o : Option Value} {z : Nat × mL × List Value × mS} (h : m_ll nx ls st S o = some z) : ∃ x, o = some (.long x) ∧ z = (nx, ls, .long x :: st, S) := by
  unfold m_ll at h
  split at h
  · next x => cases h; exact ⟨x, rfl, rfl⟩
  · cases h
theorem m_la_inv {nx : Nat} {ls : mL} {st : List Value} {S : mS} {o : Option Value} {z : Nat × mL × List Value × mS} (h : m_la nx ls st S o = some z) : ∃ x, o = some (.ref x) ∧ z = (nx, ls, .ref x :: st, S) := by
  unfold m_la at h
  split at h
  · next x => cases h; exact ⟨x, rfl, rfl⟩
  · cases h
theorem m_st_inv {nx : Nat} {ls : mL} {S : mS} {k : Nat} {st : List Value} {z : Nat × mL × List Value × mS} (h : m_st nx ls S k st = some z) : ∃ x r, st = .int x :: r ∧ z = (nx, m_sl ls k (.int x), r, S) := by
  unfold m_st at h
  split at h
  · next x r => cases h; exact ⟨x, r, rfl, rfl⟩
  · cases h
theorem m_inc_inv {nx : Nat} {ls : mL} {st : List Value} {S : mS} {k : Nat} {c : Int32} {o : Option Value} {z : Nat × mL × List Value × mS} (h : m_inc nx ls st S k c o = some z) : ∃ x, o = some (.int x) ∧ z = (nx, m_sl ls k (.int (x + c)), st, S) := by
  unfold m_inc at h
  split at h
  · next x => cases h; exact ⟨x, rfl, rfl⟩
  · cases h
theorem m_bif {b : Bool} {α : Type} {x z : α} (h : (bif b then some x else none) = some z) : b = true ∧ x = z := by
  cases b with
  | true => exact ⟨rfl, Option.some.inj h⟩
  | false => cases h
theorem m_gf_inv {nx : Nat} {ls : mL} {S : mS} {ex : List Nat} {st : List Value} {z : Nat × mL × List Value × mS} (h : m_gf nx ls S ex st = some z) : ∃ c k q kd g r, ex = [c, k, q, kd, g] ∧ st = .ref c :: r ∧ ((kd = 0 ∧ z = (nx, ls, .int (S.1 q) :: r, S)) ∨ (kd = 1 ∧ z = (nx, ls, .ref g :: r, S)) ∨ (kd = 2 ∧ z = (nx, ls, .int (S.1 q) :: r, S)) ∨ (kd = 3 ∧ z = (nx, ls, .long S.2.1 :: r, S))) := by
  unfold m_gf at h
  split at h
  · next c k q g a r => obtain ⟨h1, h2⟩ := m_bif h; cases Nat.eq_of_beq_eq_true h1; exact ⟨_, _, _, _, _, r, rfl, rfl, Or.inl ⟨rfl, h2.symm⟩⟩
  · next c k q g a r => obtain ⟨h1, h2⟩ := m_bif h; cases Nat.eq_of_beq_eq_true h1; exact ⟨_, _, _, _, _, r, rfl, rfl, Or.inr (Or.inl ⟨rfl, h2.symm⟩)⟩
  · next c k q g a r => obtain ⟨h1, h2⟩ := m_bif h; cases Nat.eq_of_beq_eq_true h1; exact ⟨_, _, _, _, _, r, rfl, rfl, Or.inr (Or.inr (Or.inl ⟨rfl, h2.symm⟩))⟩
  · next c k q g a r => obtain ⟨h1, h2⟩ := m_bif h; cases Nat.eq_of_beq_eq_true h1; exact ⟨_, _, _, _, _, r, rfl, rfl, Or.inr (Or.inr (Or.inr ⟨rfl, h2.symm⟩))⟩
  · cases h
theorem m_pf_inv {nx : Nat} {ls : mL} {S : mS} {ex : List Nat} {st : List Value} {z : Nat × mL × List Value × mS} (h : m_pf nx ls S ex st = some z) : ∃ c k q g r, (∃ x, ex = [c, k, q, 0, g] ∧ st = .int x :: .ref c :: r ∧ z = (nx, ls, r, (upd S.1 q x, S.2))) ∨ (∃ x, ex = [c, k, q, 3, g] ∧ st = .long x :: .ref c :: r ∧ z = (nx, ls, r, (S.1, x, S.2.2))) := by
  unfold m_pf at h
  split at h
  · next c k q g x a r => obtain ⟨h1, h2⟩ := m_bif h; cases Nat.eq_of_beq_eq_true h1; exact ⟨_, _, _, _, r, Or.inl ⟨x, rfl, rfl, h2.symm⟩⟩
  · next c k q g x a r => obtain ⟨h1, h2⟩ := m_bif h; cases Nat.eq_of_beq_eq_true h1; exact ⟨_, _, _, _, r, Or.inr ⟨x, rfl, rfl, h2.symm⟩⟩
  · cases h
theorem m_lkc_len {pc : Nat} : ∀ {ps : List (Int × Int)} {ts : List Nat}, m_lkc pc ps ts = true → ∀ (j : Nat) (o : Int × Int), ps[j]? = some o → (pc : Int) + o.2 = ((ts.getD j 0 : Nat) : Int) := by
  intro ps
  induction ps with
  | nil => intro ts _ j o h; simp at h
  | cons q ps ih =>
    intro ts h j o hj
    obtain ⟨a, b⟩ := q
    cases ts with
    | nil => simp [m_lkc] at h
    | cons t ts =>
      unfold m_lkc at h
      obtain ⟨h1, h2⟩ := m_and h
      cases j with
      | zero => cases hj; exact of_decide_eq_true h1
      | succ j => exact ih h2 j o hj
theorem m_lkF_ok {pc d : Nat} {dflt : Int} (hd : (pc : Int) + dflt = (d : Int)) : ∀ {ps : List (Int × Int)} {ts : List Nat} (v : Int), m_lkc pc ps ts = true → (pc : Int) + Op.lookupswitch.offset ps dflt v = ((m_lkF d ps ts v : Nat) : Int) := by
  intro ps
  induction ps with
  | nil => intro ts v _; unfold m_lkF; rw [Op.lookupswitch.offset_nil]; exact hd
  | cons q ps ih =>
    intro ts v h
    obtain ⟨a, b⟩ := q
    cases ts with
    | nil => simp [m_lkc] at h
    | cons t ts =>
      unfold m_lkc at h
      obtain ⟨h1, h2⟩ := m_and h
      unfold m_lkF
      rw [Op.lookupswitch.offset_cons]
      by_cases hv : a = v
      · rw [if_pos hv, if_pos hv]; exact of_decide_eq_true h1
      · rw [if_neg hv, if_neg hv]; exact ih v h2
theorem m_fl_get {M pc ix nx c0 k q kd g : Nat} {c1 : Int32} {c2 : Int64} (h : m_okx M pc (.getfield ix, nx, [c0, k, q, kd, g], c1, c2) = true) : ((m_ow M, ix, c0, k, 0) ∈ m_FL ∨ (m_ow M, ix, c0, k, 1) ∈ m_FL) ∧ q = 40 * c0 + k ∧ m_fd q = (kd, g) ∧ c0 < 7 ∧ k < m_nf c0 ∧ Nat.beq nx (pc + 3) = true := by
  obtain ⟨a1, a6⟩ := m_and h
  obtain ⟨b1, a5⟩ := m_and a1
  obtain ⟨b2, a4⟩ := m_and b1
  obtain ⟨b3, a3⟩ := m_and b2
  obtain ⟨b4, a2⟩ := m_and b3
  refine ⟨?_, Nat.eq_of_beq_eq_true a2, of_decide_eq_true a3, Nat.le_of_ble_eq_true a4, Nat.le_of_ble_eq_true a5, a6⟩
  rcases (Bool.or_eq_true _ _).mp b4 with z | z
  · exact Or.inl (of_decide_eq_true z)
  · exact Or.inr (of_decide_eq_true z)
theorem m_fl_put {M pc ix nx c0 k q kd g : Nat} {c1 : Int32} {c2 : Int64} (h : m_okx M pc (.putfield ix, nx, [c0, k, q, kd, g], c1, c2) = true) : (m_ow M, ix, c0, k, 0) ∈ m_FL ∧ q = 40 * c0 + k ∧ m_fd q = (kd, g) ∧ c0 < 7 ∧ k < m_nf c0 ∧ Nat.beq nx (pc + 3) = true := by
  obtain ⟨a1, a6⟩ := m_and h
  obtain ⟨b1, a5⟩ := m_and a1
  obtain ⟨b2, a4⟩ := m_and b1
  obtain ⟨b3, a3⟩ := m_and b2
  obtain ⟨b4, a2⟩ := m_and b3
  exact ⟨of_decide_eq_true b4, Nat.eq_of_beq_eq_true a2, of_decide_eq_true a3, Nat.le_of_ble_eq_true a4, Nat.le_of_ble_eq_true a5, a6⟩
theorem m_fl_word {o ix c0 k : Nat} (h : (o, ix, c0, k, 0) ∈ m_FL) : Cond.fieldLink (m_R o) ix (m_Tt c0 k).1 (m_Tt c0 k).2.1 (m_Tt c0 k).2.2.1 ∈ m_gws := by
  obtain ⟨n, hf⟩ := m_FLok h
  have hf2 : m_gw n (.fieldLink (m_R o) ix (m_Tt c0 k).1 (m_Tt c0 k).2.1 (m_Tt c0 k).2.2.1) = true := hf
  exact m_gw_in hf2
theorem m_ml_word {o ix M' : Nat} (h : (o, ix, M', 0) ∈ m_ML) : Cond.methodLink (m_R o) ix (m_y M') ∈ m_gws := by
  obtain ⟨n, hf⟩ := m_MLok h
  have hf2 : m_gw n (.methodLink (m_R o) ix (m_y M')) = true := hf
  exact m_gw_in hf2
theorem m_kd_of {c k kd g : Nat} (hc : c < 7) (hk : k < m_nf c) (h : m_fd (40 * c + k) = (kd, g)) : (kd = 0 → parseFieldDescriptor (m_Tt c k).2.2.1 = some .int ∧ (m_Tt c k).2.2.2 = false) ∧ (kd = 2 → parseFieldDescriptor (m_Tt c k).2.2.1 = some .boolean ∧ (m_Tt c k).2.2.2 = false) ∧ (kd = 3 → parseFieldDescriptor (m_Tt c k).2.2.1 = some .long ∧ (m_Tt c k).2.2.2 = false ∧ c = 6 ∧ k = 9) := by
  have h1 := m_kdok hc k hk
  unfold m_kd at h1
  rw [h] at h1
  refine ⟨fun e => ?_, fun e => ?_, fun e => ?_⟩
  · subst e
    obtain ⟨a, b⟩ := m_and h1
    exact ⟨of_decide_eq_true a, by simpa using b⟩
  · subst e
    obtain ⟨a, b⟩ := m_and h1
    exact ⟨of_decide_eq_true a, by simpa using b⟩
  · subst e
    obtain ⟨a, b⟩ := m_and h1
    obtain ⟨a2, b2⟩ := m_and a
    obtain ⟨a3, b3⟩ := m_and a2
    exact ⟨of_decide_eq_true a3, by simpa using b3, Nat.eq_of_beq_eq_true b2, Nat.eq_of_beq_eq_true b⟩
section MSND
variable {p : Program} {l : Launch} {e : Env} {R : Room} {s : State} {m : MethodId} {args : Array Value} {below : List Frame} {meth : Method} {c : Code} {H : Heap} {locs : List Loc} {Z : State → Prop}
variable {D : va_G} {ad : Nat → Nat} {cI cZ : ClassId} {M pc pc' : Nat} {A : Nat → Prop} {lsr : Array Slot} {ls ls' : mL} {st st' : List Value} {S S' : mS} {en : mE}
set_option maxHeartbeats 1000000 in
theorem m_getf_snd {ix nx : Nat} {ex : List Nat} {c1 : Int32} {c2 : Int64} (hd : decode (m_b M) pc = .ok (.getfield ix, nx - pc)) (hk : m_okx M pc (.getfield ix, nx, ex, c1, c2) = true) (hp : m_gf nx ls S ex st = some (pc', ls', st', S'))
    (hx : p.tables.exec = Jvm.exec) (hb : c.code = m_b M) (hown : s.vm.findClass (m_R (m_ow M)) = some m.cls) (hts : ∀ w ∈ m_ws M, w.before args s = true) (hK : va_K D vwCl (m_tys cI cZ) s) (hNs : m_Ns ad s) (hP : va_P D vwCl (m_w ad cI cZ S) H)
    (kk : S' = S → ls' = ls → W p l e R s m args below meth c H locs 0 0 Z (F0 m pc' lsr (st'.map (m_v ad)))) :
    W p l e R s m args below meth c H locs 0 0 Z (F0 m pc lsr (st.map (m_v ad))) := by
  obtain ⟨c0, k, q, kd, g, r, rfl, rfl, hz⟩ := m_gf_inv hp
  obtain ⟨hlk, hq, hfd, hc, hkn, hnx⟩ := m_fl_get hk
  obtain ⟨hd1, hnx2⟩ := m_dec hd hnx
  subst hnx2
  have hval : ∃ v, m_v ad (m_f S c0 k) = m_v ad v ∧ (pc', ls', st', S') = (pc + 3, ls, v :: r, S) := by
    subst hq
    unfold m_f
    rw [hfd]
    rcases hz with ⟨rfl, hz⟩ | ⟨rfl, hz⟩ | ⟨rfl, hz⟩ | ⟨rfl, hz⟩
    · exact ⟨_, rfl, hz⟩
    · exact ⟨_, rfl, hz⟩
    · exact ⟨_, rfl, hz⟩
    · exact ⟨_, rfl, hz⟩
  obtain ⟨v, hv, hz2⟩ := hval
  cases hz2
  have hat := m_fs_at (ad := ad) (S := S) hkn
  rw [hv] at hat
  rcases hlk with hm | hm
  · exact va_get (N := m_nf c0) (ref := (m_Tt c0 k).1) hx hb hts (fun w hw => m_gws_ws (m_uws hc w hw)) hown hK hP c0 (m_w_obj hc) (m_cl hc) k hkn (hts _ (m_gws_ws (m_fl_word hm))) (fun _ h => h) hat hd1 (kk rfl rfl)
  · have hlk : (Cond.fieldLinkNest (m_R (m_ow M)) ix (m_Tt c0 k).1 (m_Tt c0 k).2.1 (m_Tt c0 k).2.2.1 "NullKinds").before args s = true := va_Nw.use rfl (hNs.1 (m_ow M, ix, c0, k, 1) hm rfl)
    exact va_getN (N := m_nf c0) (ref := (m_Tt c0 k).1) hx hb hts (fun w hw => m_gws_ws (m_uws hc w hw)) hown hK hP c0 (m_w_obj hc) (m_cl hc) k hkn hlk (fun _ h => h) hat hd1 (kk rfl rfl)
set_option maxHeartbeats 1000000 in
theorem m_puti_snd {ix c0 k : Nat} {x : Int32} {ty : FieldType} {r : List Value} (hd1 : decode (m_b M) pc = .ok (.putfield ix, 3)) (hm : (m_ow M, ix, c0, k, 0) ∈ m_FL) (hc : c0 < 7) (hkn : k < m_nf c0) (hkd : (m_fd (40 * c0 + k)).1 = 0 ∨ (m_fd (40 * c0 + k)).1 = 2) (hty : parseFieldDescriptor (m_Tt c0 k).2.2.1 = some ty) (hfin : (m_Tt c0 k).2.2.2 = false) (hn : narrow ty (.int x) = .int x) (hfit : fits ty (.int x) = true)
    (hx : p.tables.exec = Jvm.exec) (hb : c.code = m_b M) (hown : s.vm.findClass (m_R (m_ow M)) = some m.cls) (hts : ∀ w ∈ m_ws M, w.before args s = true) (hK : va_K D vwCl (m_tys cI cZ) s) (hP : va_P D vwCl (m_w ad cI cZ S) H) (hD : va_D A (m_w ad cI cZ S)) (hS : va_S A s.heap H locs)
    (kk : ∀ (H' : Heap) (locs' : List Loc), va_P D vwCl (m_w ad cI cZ (upd S.1 (40 * c0 + k) x, S.2)) H' → va_D A (m_w ad cI cZ (upd S.1 (40 * c0 + k) x, S.2)) → va_S A s.heap H' locs' → W p l e R s m args below meth c H' locs' 0 0 Z (F0 m (pc + 3) lsr (r.map (m_v ad)))) :
    W p l e R s m args below meth c H locs 0 0 Z (F0 m pc lsr (.int x :: .ref (ad c0) :: r.map (m_v ad))) := by
  have e1 := m_w_put (ad := ad) (cI := cI) (cZ := cZ) (S := S) (x := x) hc hkn hkd
  rw [e1] at kk
  exact va_put (N := m_nf c0) (ref := (m_Tt c0 k).1) (ty := ty) hx hb hts (fun w hw => m_gws_ws (m_uws hc w hw)) (m_ty c0) (m_tyok hc) (m_nmok hc) hown hK hP hD hS c0 (m_w_obj hc) (m_cl hc) k hkn (hts _ (m_gws_ws (m_fl_word hm))) (fun _ h => h) hfin hty hn hfit (by rw [m_fs_len]; exact hkn) hd1 kk
set_option maxHeartbeats 1000000 in
theorem m_putf_snd {ix nx : Nat} {ex : List Nat} {c1 : Int32} {c2 : Int64} (hd : decode (m_b M) pc = .ok (.putfield ix, nx - pc)) (hk : m_okx M pc (.putfield ix, nx, ex, c1, c2) = true) (hp : m_pf nx ls S ex st = some (pc', ls', st', S'))
    (hx : p.tables.exec = Jvm.exec) (hb : c.code = m_b M) (hown : s.vm.findClass (m_R (m_ow M)) = some m.cls) (hts : ∀ w ∈ m_ws M, w.before args s = true) (hK : va_K D vwCl (m_tys cI cZ) s) (hP : va_P D vwCl (m_w ad cI cZ S) H) (hD : va_D A (m_w ad cI cZ S)) (hS : va_S A s.heap H locs)
    (kk : ls' = ls → ∀ (H' : Heap) (locs' : List Loc), va_P D vwCl (m_w ad cI cZ S') H' → va_D A (m_w ad cI cZ S') → va_S A s.heap H' locs' → W p l e R s m args below meth c H' locs' 0 0 Z (F0 m pc' lsr (st'.map (m_v ad)))) :
    W p l e R s m args below meth c H locs 0 0 Z (F0 m pc lsr (st.map (m_v ad))) := by
  obtain ⟨c0, k, q, g, r, hz⟩ := m_pf_inv hp
  rcases hz with ⟨x, rfl, rfl, hz⟩ | ⟨x, rfl, rfl, hz⟩
  · obtain ⟨hm, hq, hfd, hc, hkn, hnx⟩ := m_fl_put hk
    obtain ⟨hd1, hnx2⟩ := m_dec hd hnx
    subst hnx2
    subst hq
    cases hz
    obtain ⟨hty, hfin⟩ := (m_kd_of hc hkn hfd).1 rfl
    exact m_puti_snd hd1 hm hc hkn (Or.inl (by rw [hfd])) hty hfin rfl rfl hx hb hown hts hK hP hD hS (kk rfl)
  · obtain ⟨hm, hq, hfd, hc, hkn, hnx⟩ := m_fl_put hk
    obtain ⟨hd1, hnx2⟩ := m_dec hd hnx
    subst hnx2
    subst hq
    cases hz
    obtain ⟨hty, hfin, e6, e9⟩ := (m_kd_of hc hkn hfd).2.2 rfl
    subst e6
    subst e9
    have e1 := m_w_long (ad := ad) (cI := cI) (cZ := cZ) (S := S) (y := x)
    have kk2 := kk rfl
    rw [e1] at kk2
    exact va_put (N := m_nf 6) (ref := (m_Tt 6 9).1) (ty := .long) hx hb hts (fun w hw => m_gws_ws (m_uws hc w hw)) (m_ty 6) (m_tyok hc) (m_nmok hc) hown hK hP hD hS 6 (m_w_obj hc) (m_cl hc) 9 hkn (hts _ (m_gws_ws (m_fl_word hm))) (fun _ h => h) hfin hty rfl rfl (by rw [m_fs_len]; exact hkn) hd1 kk2
set_option maxHeartbeats 1000000 in
/-- a step that always goes on: the machine does it -/
theorem m_p_snd (hok : m_oke M pc en = true) (hp : m_p en ls st S = some (pc', ls', st', S')) (C : m_Cx p D ad cI cZ s m args meth c M A) (hP : va_P D vwCl (m_w ad cI cZ S) H) (hD : va_D A (m_w ad cI cZ S)) (hS : va_S A s.heap H locs) (hl : lv_has lsr (m_mx M) (m_vl ad ls))
    (kk : ∀ (H' : Heap) (locs' : List Loc) (lsr' : Array Slot), va_P D vwCl (m_w ad cI cZ S') H' → va_D A (m_w ad cI cZ S') → va_S A s.heap H' locs' → lv_has lsr' (m_mx M) (m_vl ad ls') → W p l e R s m args below meth c H' locs' 0 0 Z (F0 m pc' lsr' (st'.map (m_v ad)))) :
    W p l e R s m args below meth c H locs 0 0 Z (F0 m pc lsr (st.map (m_v ad))) := by
  obtain ⟨hx, hb, -, -, hown, hts, -, hK, hSt, hNs, -⟩ := C
  obtain ⟨hd, hk⟩ := m_ok1 hok
  obtain ⟨i, nx, ex, c1, c2⟩ := en
  dsimp only at hd
  cases i
  case iconst v =>
    obtain ⟨h1, h2⟩ := m_and hk
    obtain ⟨hd1, rfl⟩ := m_dec hd h2
    cases hp
    exact lv_iconst hx hb hd1 (of_decide_eq_true h1) (kk H locs lsr hP hD hS hl)
  case bipush v =>
    obtain ⟨h1, h2⟩ := m_and hk
    obtain ⟨hd1, rfl⟩ := m_dec hd h2
    cases hp
    exact lv_bipush hx hb hd1 (of_decide_eq_true h1) (kk H locs lsr hP hD hS hl)
  case sipush v =>
    obtain ⟨h1, h2⟩ := m_and hk
    obtain ⟨hd1, rfl⟩ := m_dec hd h2
    cases hp
    exact lv_sipush hx hb hd1 (of_decide_eq_true h1) (kk H locs lsr hP hD hS hl)
  case lconst v =>
    obtain ⟨h1, h2⟩ := m_and hk
    obtain ⟨hd1, rfl⟩ := m_dec hd h2
    cases hp
    exact lv_lconst hx hb hd1 (of_decide_eq_true h1) (kk H locs lsr hP hD hS hl)
  case ldc2_w ix =>
    obtain ⟨h1, h2⟩ := m_and hk
    obtain ⟨hd1, rfl⟩ := m_dec hd h2
    cases hp
    have hm : (m_ow M, ix, c2) ∈ m_LL := of_decide_eq_true h1
    have hlk : (Cond.constantLong (m_R (m_ow M)) ix c2).before args s = true := hts _ (m_gws_ws (m_LLok hm))
    exact lv_ldc2 hx hb hown hlk hd1 (kk H locs lsr hP hD hS hl)
  case iload k =>
    obtain ⟨hd1, rfl⟩ := m_dec (len := 2) hd hk
    obtain ⟨x, h1, h2⟩ := m_li_inv hp
    cases h2
    exact lv_iload hx hb hd1 (m_gl_at hl h1).1 (kk H locs lsr hP hD hS hl)
  case iload_n k =>
    obtain ⟨hd1, rfl⟩ := m_dec (len := 1) hd hk
    obtain ⟨x, h1, h2⟩ := m_li_inv hp
    cases h2
    exact lv_iload_n hx hb hd1 rfl (m_gl_at hl h1).1 (kk H locs lsr hP hD hS hl)
  case lload k =>
    obtain ⟨hd1, rfl⟩ := m_dec (len := 2) hd hk
    obtain ⟨x, h1, h2⟩ := m_ll_inv hp
    cases h2
    exact lv_lload hx hb hd1 (m_gl_at hl h1).1 (kk H locs lsr hP hD hS hl)
  case lload_n k =>
    obtain ⟨hd1, rfl⟩ := m_dec (len := 1) hd hk
    obtain ⟨x, h1, h2⟩ := m_ll_inv hp
    cases h2
    exact lv_lload_n hx hb hd1 rfl (m_gl_at hl h1).1 (kk H locs lsr hP hD hS hl)
  case aload_n k =>
    obtain ⟨hd1, rfl⟩ := m_dec (len := 1) hd hk
    obtain ⟨x, h1, h2⟩ := m_la_inv hp
    cases h2
    exact lv_aload_n hx hb hd1 rfl (m_gl_at hl h1).1 (kk H locs lsr hP hD hS hl)
  case istore k =>
    obtain ⟨h0, h2⟩ := m_and hk
    obtain ⟨hd1, rfl⟩ := m_dec hd h2
    obtain ⟨x, r, h1, h2⟩ := m_st_inv hp
    cases h2
    subst h1
    exact lv_istore hx hb hd1 hl (Nat.le_of_ble_eq_true h0) (m_sl_vl (v := .int _)) (fun lsr' hl' => kk H locs lsr' hP hD hS hl')
  case istore_n k =>
    obtain ⟨h0, h2⟩ := m_and hk
    obtain ⟨hd1, rfl⟩ := m_dec hd h2
    obtain ⟨x, r, h1, h2⟩ := m_st_inv hp
    cases h2
    subst h1
    exact lv_istore_n hx hb hd1 rfl hl (Nat.le_of_ble_eq_true h0) (m_sl_vl (v := .int _)) (fun lsr' hl' => kk H locs lsr' hP hD hS hl')
  case iinc k v =>
    obtain ⟨h0, h2⟩ := m_and hk
    obtain ⟨h0, h3⟩ := m_and h0
    obtain ⟨hd1, rfl⟩ := m_dec hd h2
    obtain ⟨x, h1, h2⟩ := m_inc_inv hp
    cases h2
    obtain ⟨-, n, hn⟩ := m_gl_at hl h1
    have hv : Int32.ofInt v = c1 := of_decide_eq_true h3
    exact lv_iinc (v := x + c1) hx hb hd1 hl hn (by rw [hv]) (Nat.le_of_ble_eq_true h0) (m_sl_vl (v := .int _)) (fun lsr' hl' => kk H locs lsr' hP hD hS hl')
  case iadd =>
    obtain ⟨hd1, rfl⟩ := m_dec (len := 1) hd hk
    obtain ⟨x, y, r, h1, h2⟩ := m_2_inv hp
    cases h2
    subst h1
    exact lv_iadd hx hb hd1 (kk H locs lsr hP hD hS hl)
  case isub =>
    obtain ⟨hd1, rfl⟩ := m_dec (len := 1) hd hk
    obtain ⟨x, y, r, h1, h2⟩ := m_2_inv hp
    cases h2
    subst h1
    exact lv_isub hx hb hd1 (kk H locs lsr hP hD hS hl)
  case imul =>
    obtain ⟨hd1, rfl⟩ := m_dec (len := 1) hd hk
    obtain ⟨x, y, r, h1, h2⟩ := m_2_inv hp
    cases h2
    subst h1
    exact lv_imul hx hb hd1 (kk H locs lsr hP hD hS hl)
  case iand =>
    obtain ⟨hd1, rfl⟩ := m_dec (len := 1) hd hk
    obtain ⟨x, y, r, h1, h2⟩ := m_2_inv hp
    cases h2
    subst h1
    exact lv_iand hx hb hd1 (kk H locs lsr hP hD hS hl)
  case ior =>
    obtain ⟨hd1, rfl⟩ := m_dec (len := 1) hd hk
    obtain ⟨x, y, r, h1, h2⟩ := m_2_inv hp
    cases h2
    subst h1
    exact lv_ior hx hb hd1 (kk H locs lsr hP hD hS hl)
  case ixor =>
    obtain ⟨hd1, rfl⟩ := m_dec (len := 1) hd hk
    obtain ⟨x, y, r, h1, h2⟩ := m_2_inv hp
    cases h2
    subst h1
    exact lv_ixor hx hb hd1 (kk H locs lsr hP hD hS hl)
  case ishl =>
    obtain ⟨hd1, rfl⟩ := m_dec (len := 1) hd hk
    obtain ⟨x, y, r, h1, h2⟩ := m_2_inv hp
    cases h2
    subst h1
    exact lv_ishl hx hb hd1 (kk H locs lsr hP hD hS hl)
  case ishr =>
    obtain ⟨hd1, rfl⟩ := m_dec (len := 1) hd hk
    obtain ⟨x, y, r, h1, h2⟩ := m_2_inv hp
    cases h2
    subst h1
    exact lv_ishr hx hb hd1 (kk H locs lsr hP hD hS hl)
  case iushr =>
    obtain ⟨hd1, rfl⟩ := m_dec (len := 1) hd hk
    obtain ⟨x, y, r, h1, h2⟩ := m_2_inv hp
    cases h2
    subst h1
    exact lv_iushr hx hb hd1 rfl (kk H locs lsr hP hD hS hl)
  case goto off =>
    simp only [m_okx] at hk
    simp only [m_p] at hp
    split at hp
    · next t =>
      obtain ⟨h1, h2⟩ := m_and hk
      obtain ⟨hd1, rfl⟩ := m_dec hd h2
      cases hp
      exact lv_goto hx hb hd1 (of_decide_eq_true h1) (kk H locs lsr hP hD hS hl)
    · cases hp
  case dup =>
    obtain ⟨hd1, rfl⟩ := m_dec (len := 1) hd hk
    simp only [m_p] at hp
    split at hp
    · cases hp
      exact lv_dup hx hb hd1 rfl (kk H locs lsr hP hD hS hl)
    · cases hp
      exact lv_dup hx hb hd1 rfl (kk H locs lsr hP hD hS hl)
    · cases hp
  case dup2 =>
    obtain ⟨hd1, rfl⟩ := m_dec (len := 1) hd hk
    simp only [m_p] at hp
    split at hp
    · cases hp
      exact lv_dup2_11 hx hb hd1 rfl rfl (kk H locs lsr hP hD hS hl)
    · cases hp
  case i2l =>
    obtain ⟨hd1, rfl⟩ := m_dec (len := 1) hd hk
    simp only [m_p] at hp
    split at hp
    · cases hp
      exact lv_i2l hx hb hd1 rfl (kk H locs lsr hP hD hS hl)
    · cases hp
  case l2i =>
    obtain ⟨hd1, rfl⟩ := m_dec (len := 1) hd hk
    simp only [m_p] at hp
    split at hp
    · cases hp
      exact lv_l2i hx hb hd1 rfl (kk H locs lsr hP hD hS hl)
    · cases hp
  case lcmp =>
    obtain ⟨hd1, rfl⟩ := m_dec (len := 1) hd hk
    simp only [m_p] at hp
    split at hp
    · cases hp
      exact W.lcmp hx hb hd1 (kk H locs lsr hP hD hS hl)
    · cases hp
  case ladd =>
    obtain ⟨hd1, rfl⟩ := m_dec (len := 1) hd hk
    simp only [m_p] at hp
    split at hp
    · cases hp
      exact lv_ladd hx hb hd1 (kk H locs lsr hP hD hS hl)
    · cases hp
  case tableswitch dflt lo hi offs =>
    obtain ⟨h1, h3⟩ := m_and hk
    obtain ⟨h1, h2⟩ := m_and h1
    simp only [m_p] at hp
    split at hp
    · next x r =>
      cases hp
      have hlen : hi - lo + 1 = ((offs.toList.length : Nat) : Int) := of_decide_eq_true h2
      unfold m_ts at kk
      by_cases ho : x.toInt < lo ∨ hi < x.toInt
      · rw [if_pos ho] at kk
        exact lv_tableOut hx hb hd ho (of_decide_eq_true h1) (kk H locs lsr hP hD hS hl)
      · rw [if_neg ho] at kk
        have hj : (x.toInt - lo).toNat < offs.toList.length := by omega
        obtain ⟨o, hoo⟩ : ∃ o, offs.toList[(x.toInt - lo).toNat]? = some o := ⟨_, List.getElem?_eq_getElem hj⟩
        have h4 := m_lkc_len h3 (x.toInt - lo).toNat (0, o) (by rw [List.getElem?_map, hoo]; rfl)
        have h5 : (ex.drop 1).getD (x.toInt - lo).toNat 0 = ex.getD ((x.toInt - lo).toNat + 1) 0 := by
          simp [List.getD_eq_getElem?_getD, List.getElem?_drop, Nat.add_comm]
        rw [h5] at h4
        exact lv_tableIn hx hb hd (fun q => ho (Or.inl q)) (fun q => ho (Or.inr q)) (by rw [← Array.getElem?_toList]; exact hoo) h4 (kk H locs lsr hP hD hS hl)
    · cases hp
  case lookupswitch dflt ps =>
    obtain ⟨h1, h3⟩ := m_and hk
    obtain ⟨h1, h2⟩ := m_and h1
    simp only [m_p] at hp
    split at hp
    · next x r =>
      cases hp
      exact lv_lookup hx hb hd h2 rfl (m_lkF_ok (of_decide_eq_true h1) x.toInt h3) (kk H locs lsr hP hD hS hl)
    · cases hp
  case getstatic ix =>
    simp only [m_okx] at hk
    simp only [m_p] at hp
    split at hp
    · next g =>
      obtain ⟨h1, h2⟩ := m_and hk
      obtain ⟨hd1, rfl⟩ := m_dec hd h2
      cases hp
      have hm : (m_ow M, ix, g) ∈ m_SL := of_decide_eq_true h1
      obtain ⟨g1, g2⟩ := m_SLok hm
      have hlk : (Cond.fieldLinkNest (m_R (m_ow M)) ix "NullKinds" (m_sn g) "[I" "NullKinds").before args s = true := va_Nw.use rfl (hNs.2.2.1 (m_ow M, ix, g) hm)
      exact va_getsN hx hb (hSt.1 g g1 g2).1 hS hown hlk (fun _ h => h) hd1 (kk H locs lsr hP hD hS hl)
    · cases hp
  case ldc ix =>
    simp only [m_okx] at hk
    simp only [m_p] at hp
    split at hp
    · next g =>
      obtain ⟨h1, h2⟩ := m_and hk
      obtain ⟨h1, h3⟩ := m_and h1
      obtain ⟨hd1, rfl⟩ := m_dec hd h2
      cases hp
      have ho := Nat.eq_of_beq_eq_true h3
      rw [ho] at hown
      have hm : (ix, g) ∈ [(31, 600), (43, 601), (45, 602)] := of_decide_eq_true h1
      have hR3 : vk_R (m_R 3) ix (m_txt g) (ad g) s := hNs.2.2.2 (ix, g) hm
      exact va_ldcS hx hb hown hR3 hd1 (kk H locs lsr hP hD hS hl)
    · cases hp
  case getfield ix => exact m_getf_snd hd hk hp hx hb hown hts hK hNs hP (fun e1 e2 => by subst e1; subst e2; exact kk H locs lsr hP hD hS hl)
  case putfield ix => exact m_putf_snd hd hk hp hx hb hown hts hK hP hD hS (fun e2 H1 locs1 h1 h2 h3 => by subst e2; exact kk H1 locs1 lsr h1 h2 h3 hl)
  all_goals (cases hp)
end MSND
section MSND2
variable {p : Program} {l : Launch} {e : Env} {R : Room} {s : State} {m : MethodId} {args : Array Value} {below : List Frame} {meth : Method} {c : Code} {H : Heap} {locs : List Loc} {Z : State → Prop}
variable {D : va_G} {ad : Nat → Nat} {cI cZ : ClassId} {M pc t : Nat} {A : Nat → Prop} {lsr : Array Slot} {ls : mL} {st st' r : List Value} {S S' : mS} {en : mE} {P G : Prop}
set_option maxHeartbeats 1000000 in
theorem m_b_snd (hok : m_oke M pc en = true) (hp : m_br en st = some (P, t, r)) (C : m_Cx p D ad cI cZ s m args meth c M A)
    (kt : P → W p l e R s m args below meth c H locs 0 0 Z (F0 m t lsr (r.map (m_v ad)))) (kf : ¬ P → W p l e R s m args below meth c H locs 0 0 Z (F0 m en.2.1 lsr (r.map (m_v ad)))) :
    W p l e R s m args below meth c H locs 0 0 Z (F0 m pc lsr (st.map (m_v ad))) := by
  obtain ⟨hx, hb, -⟩ := C
  obtain ⟨hd, hk⟩ := m_ok1 hok
  obtain ⟨i, nx, ex, c1, c2⟩ := en
  dsimp only at hd kf
  cases i
  case ifCond cnd off =>
    simp only [m_okx] at hk
    simp only [m_br] at hp
    split at hp
    · next t0 x r0 =>
      obtain ⟨h1, h2⟩ := m_and hk
      obtain ⟨hd1, rfl⟩ := m_dec hd h2
      cases hp
      cases cnd
      · exact lv_if_eq hx hb hd1 (of_decide_eq_true h1) kt kf
      · exact lv_if_ne hx hb hd1 (of_decide_eq_true h1) kt (fun q => kf (fun z => z q))
      · exact lv_if_lt hx hb hd1 (of_decide_eq_true h1) kt kf
      · exact lv_if_ge hx hb hd1 (of_decide_eq_true h1) kt kf
      · exact lv_if_gt hx hb hd1 (of_decide_eq_true h1) kt kf
      · exact lv_if_le hx hb hd1 (of_decide_eq_true h1) kt kf
    · cases hp
  case if_icmp cnd off =>
    simp only [m_okx] at hk
    simp only [m_br] at hp
    split at hp
    · next t0 y x r0 =>
      obtain ⟨h1, h2⟩ := m_and hk
      obtain ⟨hd1, rfl⟩ := m_dec hd h2
      cases hp
      cases cnd
      · exact lv_icmp_eq hx hb hd1 (of_decide_eq_true h1) kt kf
      · exact lv_icmp_ne hx hb hd1 (of_decide_eq_true h1) kt (fun q => kf (fun z => z q))
      · exact lv_icmp_lt hx hb hd1 (of_decide_eq_true h1) kt kf
      · exact lv_icmp_ge hx hb hd1 (of_decide_eq_true h1) kt kf
      · exact lv_icmp_gt hx hb hd1 (of_decide_eq_true h1) kt kf
      · exact lv_icmp_le hx hb hd1 (of_decide_eq_true h1) kt kf
    · cases hp
  all_goals (cases hp)
theorem m_isSome {a : Nat} (h : (m_ai a).isSome = true) : ∃ n, m_ai a = some n := Option.isSome_iff_exists.mp h
theorem m_ld_w {S : mS} {a n : Nat} (h : m_ai a = some n) (x : Int32) : m_ld S a x = S.2.2 a x.toNatClampNeg := by
  have h1 := (m_ai_lt h).1
  unfold m_ld
  rw [show Nat.blt a 500 = true from Nat.ble_eq_true_of_le h1]
  rfl
theorem m_bool {x : Int32} (h : x = 0 ∨ x = 1) : narrow .boolean (.int x) = .int x ∧ fits .boolean (.int x) = true ∧ vp_nar .boolean x = x := by
  rcases h with h | h <;> subst h <;> exact ⟨rfl, rfl, rfl⟩
set_option maxHeartbeats 1000000 in
theorem m_g_snd (hok : m_oke M pc en = true) (hp : m_g en st S = some (G, st', S')) (hG : G) (C : m_Cx p D ad cI cZ s m args meth c M A) (hP : va_P D vwCl (m_w ad cI cZ S) H) (hD : va_D A (m_w ad cI cZ S)) (hS : va_S A s.heap H locs)
    (kk : ∀ (H' : Heap) (locs' : List Loc), va_P D vwCl (m_w ad cI cZ S') H' → va_D A (m_w ad cI cZ S') → va_S A s.heap H' locs' → W p l e R s m args below meth c H' locs' 0 0 Z (F0 m en.2.1 lsr (st'.map (m_v ad)))) :
    W p l e R s m args below meth c H locs 0 0 Z (F0 m pc lsr (st.map (m_v ad))) := by
  obtain ⟨hx, hb, -, -, hown, hts, -, hK, hSt, hNs, -⟩ := C
  obtain ⟨hd, hk⟩ := m_ok1 hok
  obtain ⟨i, nx, ex, c1, c2⟩ := en
  dsimp only at hd kk
  cases i
  case putfield ix =>
    simp only [m_g] at hp
    split at hp
    · next c0 k q g x a r0 =>
      obtain ⟨h0, hz⟩ := m_bif hp
      have ha := Nat.eq_of_beq_eq_true h0
      subst ha
      obtain ⟨hm, hq, hfd, hc, hkn, hnx⟩ := m_fl_put hk
      obtain ⟨hd1, hnx2⟩ := m_dec hd hnx
      subst hnx2
      subst hq
      cases hz
      obtain ⟨hty, hfin⟩ := (m_kd_of hc hkn hfd).2.1 rfl
      exact m_puti_snd hd1 hm hc hkn (Or.inr (by rw [hfd])) hty hfin (m_bool hG).1 (m_bool hG).2.1 hx hb hown hts hK hP hD hS kk
    · cases hp
  case iaload =>
    obtain ⟨hd1, rfl⟩ := m_dec (len := 1) hd hk
    simp only [m_g] at hp
    split at hp
    · next x a r0 =>
      obtain ⟨h0, hz⟩ := m_bif hp
      cases hz
      by_cases hw : m_wI a = true
      · obtain ⟨h1, h2⟩ := m_and hw
        obtain ⟨n, hn⟩ := m_isSome h1
        have hat := m_w_arr (ad := ad) (cI := cI) (cZ := cZ) (S := S) hn
        rw [show m_az a = false by simpa using h2] at hat
        rw [m_ld_w hn] at kk
        exact va_iald hx hb hK hP (7 + n) 0 hat rfl hG hd1 (kk H locs hP hD hS)
      · have hg : a = 500 ∨ a = 501 ∨ a = 502 := by
          unfold m_rI at h0
          unfold m_wI at hw
          simp only [Bool.or_eq_true] at h0
          rcases h0 with ((h0 | h0) | h0) | h0
          · exact absurd h0 hw
          · exact Or.inl (Nat.eq_of_beq_eq_true h0)
          · exact Or.inr (Or.inl (Nat.eq_of_beq_eq_true h0))
          · exact Or.inr (Or.inr (Nat.eq_of_beq_eq_true h0))
        rcases hg with rfl | rfl | rfl
        · exact va_ti hx hb (hSt.1 500 (by decide) (by decide)).2 hS hG rfl hd1 (kk H locs hP hD hS)
        · exact va_ti hx hb (hSt.1 501 (by decide) (by decide)).2 hS hG rfl hd1 (kk H locs hP hD hS)
        · exact va_ti hx hb (hSt.1 502 (by decide) (by decide)).2 hS hG rfl hd1 (kk H locs hP hD hS)
    · cases hp
  case baload =>
    obtain ⟨hd1, rfl⟩ := m_dec (len := 1) hd hk
    simp only [m_g] at hp
    split at hp
    · next x a r0 =>
      obtain ⟨h0, hz⟩ := m_bif hp
      cases hz
      obtain ⟨h1, h2⟩ := m_and h0
      obtain ⟨n, hn⟩ := m_isSome h1
      have hat := m_w_arr (ad := ad) (cI := cI) (cZ := cZ) (S := S) hn
      rw [h2] at hat
      exact va_zald hx hb hK hP (7 + n) 1 hat rfl hG hd1 (kk H locs hP hD hS)
    · cases hp
  case iastore =>
    obtain ⟨hd1, rfl⟩ := m_dec (len := 1) hd hk
    simp only [m_g] at hp
    split at hp
    · next x y a r0 =>
      obtain ⟨h0, hz⟩ := m_bif hp
      cases hz
      obtain ⟨h1, h2⟩ := m_and h0
      obtain ⟨n, hn⟩ := m_isSome h1
      have hat := m_w_arr (ad := ad) (cI := cI) (cZ := cZ) (S := S) hn
      have e1 := m_w_ast (ad := ad) (cI := cI) (cZ := cZ) (S := S) (f := upd (S.2.2 a) y.toNatClampNeg x) hn
      rw [show m_az a = false by simpa using h2] at hat e1
      exact va_iast hx hb hK hP hD hS (7 + n) 0 hat rfl hG hd1 (fun H1 locs1 hP1 hD1 hS1 => kk H1 locs1 (by rw [e1]; exact hP1) (by rw [e1]; exact hD1) hS1)
    · cases hp
  case bastore =>
    obtain ⟨hd1, rfl⟩ := m_dec (len := 1) hd hk
    simp only [m_g] at hp
    split at hp
    · next x y a r0 =>
      obtain ⟨h0, hz⟩ := m_bif hp
      cases hz
      obtain ⟨h1, h2⟩ := m_and h0
      obtain ⟨n, hn⟩ := m_isSome h1
      have hat := m_w_arr (ad := ad) (cI := cI) (cZ := cZ) (S := S) hn
      have e1 := m_w_ast (ad := ad) (cI := cI) (cZ := cZ) (S := S) (f := upd (S.2.2 a) y.toNatClampNeg x) hn
      rw [h2] at hat e1
      exact va_zast hx hb hK hP hD hS (7 + n) 1 hat rfl hG.2 hd1 (fun H1 locs1 hP1 hD1 hS1 => kk H1 locs1 (by rw [e1]; rw [(m_bool hG.1).2.2] at hP1; exact hP1) (by rw [e1]; rw [(m_bool hG.1).2.2] at hD1; exact hD1) hS1)
    · cases hp
  case arraylength =>
    obtain ⟨hd1, rfl⟩ := m_dec (len := 1) hd hk
    simp only [m_g] at hp
    split at hp
    · next a r0 =>
      obtain ⟨h0, hz⟩ := m_bif hp
      cases hz
      obtain ⟨n, hn⟩ := m_isSome h0
      have hat := m_w_arr (ad := ad) (cI := cI) (cZ := cZ) (S := S) hn
      cases haz : m_az a with
      | true =>
        rw [haz] at hat
        exact va_alen hx hb hK hP (7 + n) 1 hat rfl rfl hd1 (kk H locs hP hD hS)
      | false =>
        rw [haz] at hat
        exact va_alen hx hb hK hP (7 + n) 0 hat rfl rfl hd1 (kk H locs hP hD hS)
    · cases hp
  case idiv =>
    obtain ⟨hd1, rfl⟩ := m_dec (len := 1) hd hk
    simp only [m_g] at hp
    split at hp
    · cases hp
      exact lv_idiv hx hb hd1 hG (kk H locs hP hD hS)
    · cases hp
  case ldiv =>
    obtain ⟨hd1, rfl⟩ := m_dec (len := 1) hd hk
    simp only [m_g] at hp
    split at hp
    · cases hp
      exact lv_ldiv hx hb hd1 hG (kk H locs hP hD hS)
    · cases hp
  all_goals (cases hp)
set_option maxHeartbeats 1000000 in
theorem m_r_snd {v : Option Value} {Q : mQ} (hok : m_oke M pc en = true) (hp : m_rv en st = some (G, v)) (hG : G) (hQ : Q v S) (C : m_Cx p D ad cI cZ s m args meth c M A) (hP : va_P D vwCl (m_w ad cI cZ S) H) (hD : va_D A (m_w ad cI cZ S)) (hS : va_S A s.heap H locs) :
    W p l e R s m args below meth c H locs 0 0 (MQ below (m_Qc D ad cI cZ Q A) args s 0 0 A) (F0 m pc lsr (st.map (m_v ad))) := by
  obtain ⟨hx, hb, hr, -, -, -, hlocks, hK, -⟩ := C
  obtain ⟨hd, hk⟩ := m_ok1 hok
  have hq : m_pl v → ∀ t : State, t.heap = H → s.WarmedH t.vm → m_Qc D ad cI cZ Q A args s (.returned v) t := fun hpl t ht hW => ⟨⟨v, S, rfl, hpl, hQ, by rw [ht]; exact hP, va_K.moved hW.alike hK, hD⟩, hS.F ht⟩
  obtain ⟨i, nx, ex, c1, c2⟩ := en
  dsimp only at hd
  cases i
  case ireturn =>
    simp only [m_rv] at hp
    split at hp
    · next x =>
      cases hp
      obtain ⟨hk1, hk2⟩ := m_and hk
      have hrt : m_rt M = some .int := of_decide_eq_true hk1
      rw [hrt] at hr
      obtain ⟨hd1, -⟩ := m_dec hd hk2
      exact W.iret hx hb hr (hq (fun _ e => by first | (cases e; done) | (cases e; exact fun _ => rfl))) hS.2.2 hd1 hlocks
    · next x =>
      cases hp
      obtain ⟨hk1, hk2⟩ := m_and hk
      have hrt : m_rt M = some .boolean := of_decide_eq_true hk1
      rw [hrt] at hr
      obtain ⟨hd1, -⟩ := m_dec hd hk2
      exact W.zret hx hb hr (m_bool hG).1 (hq (fun _ e => by first | (cases e; done) | (cases e; exact fun _ => rfl))) hS.2.2 hd1 hlocks
    · cases hp
  case lreturn =>
    simp only [m_rv] at hp
    split at hp
    · next x =>
      cases hp
      obtain ⟨hk1, hk2⟩ := m_and hk
      have hrt : m_rt M = some .long := of_decide_eq_true hk1
      rw [hrt] at hr
      obtain ⟨hd1, -⟩ := m_dec hd hk2
      exact W.lret hx hb hr (hq (fun _ e => by first | (cases e; done) | (cases e; exact fun _ => rfl))) hS.2.2 hd1 hlocks
    · cases hp
  case return_ =>
    simp only [m_rv] at hp
    split at hp
    · cases hp
      obtain ⟨hk1, hk2⟩ := m_and hk
      have hrt : m_rt M = none := of_decide_eq_true hk1
      rw [hrt] at hr
      obtain ⟨hd1, -⟩ := m_dec hd hk2
      exact W.vret hx hb hr (hq (fun _ e => by first | (cases e; done) | (cases e; exact fun _ => rfl))) hS.2.2 hd1 hlocks
    · cases hp
  all_goals (cases hp)
end MSND2
