section QC
variable {p : Program} {l : Launch} {e : Env} {R : Room} {s : State} {m : MethodId} {args : Array Value} {below : List Frame} {meth : Method} {c : Code} {H : Heap} {locs : List Loc} {cells slots : Nat} {Q : State → Prop}
variable {D : va_G} {cI cZ cE : ClassId} {A : Nat → Prop} {cc : ByteArray} {pc pc2 : Nat} {ls : Array Slot} {mxl : Nat} {w0 : Cond} {h0 cl kf ix n : Nat} {fs : List Value} {tl : va_W} {lv : List (Nat × Value)}
/-- what stands fixed in a constructor -/
def q_F (p : Program) (s : State) (m : MethodId) (args : Array Value) (meth : Method) (c : Code) (cc : ByteArray) (w0 : Cond) (D : va_G) (cI cZ : ClassId) (A : Nat → Prop) (cl : Nat) : Prop :=
  p.tables.exec = Jvm.exec ∧ c.code = cc ∧ (∀ w ∈ w0 :: m_gws, w.before args s = true) ∧ s.vm.findClass (m_R cl) = some m.cls ∧ meth.name = "<init>" ∧ va_K D vwCl (m_tys cI cZ) s ∧ (∀ q, s.heap.size ≤ q → A q) ∧ cl < 7
def q_S (D : va_G) (A : Nat → Prop) (s : State) (H : Heap) (locs : List Loc) (ws : va_W) : Prop := va_P D vwCl ws H ∧ va_D A ws ∧ va_S A s.heap H locs
/-- a new array into a field -/
theorem q_arr {a9 : ArrayType} {te tf : FieldType} {t0 : Nat} {x : Int32} (F : q_F p s m args meth c cc w0 D cI cZ A cl) (S : q_S D A s H locs ((h0, .inr (cl, fs)) :: tl)) (hl : lv_has ls mxl ((0, .ref h0) :: lv))
    (hae : newarray.typeOf a9 = te) (hdf : defaultValue te = .int 0) (hst : (m_tys cI cZ)[t0]? = some (cE, te)) (hun : ∀ a b, va_RA s a te → va_RA s b te → a = b) (haw : Cond.arrayClass te ∈ m_gws)
    (hx0 : ¬ x < 0) (hxn : x.toNatClampNeg = n) (hby : n * componentBytes te ≤ 536870912) (hcells : cells + 1 ≤ R.cells) (hslots : slots + n ≤ R.slots)
    (hk : kf < m_nf cl) (hkl : kf < fs.length) (hfl : (cl, ix, cl, kf, 0) ∈ m_FL) (hfin : (m_Tt cl kf).2.2.2 = true) (hdecl : (m_Tt cl kf).1 = m_R cl) (hty : parseFieldDescriptor (m_Tt cl kf).2.2.1 = some tf) (hnr : ∀ q, narrow tf (.ref q) = .ref q) (hfit : ∀ q, fits tf (.ref q) = true)
    (d0 : decode cc pc = .ok (.aload_n 0, 1)) (hpush : ∀ st : List Value, W p l e R s m args below meth c H locs cells slots Q (F0 m pc2 ls (.int x :: st)) → W p l e R s m args below meth c H locs cells slots Q (F0 m (pc + 1) ls st)) (d2 : decode cc pc2 = .ok (.newarray a9, 2)) (d3 : decode cc (pc2 + 2) = .ok (.putfield ix, 3))
    (kk : ∀ (q : Nat) (H1 : Heap) (locs1 : List Loc), q_S D A s H1 locs1 ((h0, .inr (cl, fs.set kf (.ref q))) :: (tl ++ [(q, .inl (cE, n, .inl (fun _ => 0)))])) → W p l e R s m args below meth c H1 locs1 (cells + 1) (slots + n) Q (F0 m (pc2 + 5) ls [])) :
    W p l e R s m args below meth c H locs cells slots Q (F0 m pc ls []) := by
  obtain ⟨hx, hb, hts, hown, hin, hK, hA, hc7⟩ := F
  obtain ⟨hP, hD, hS⟩ := S
  subst hae
  refine lv_aload_n hx hb d0 rfl (lv_at hl 0 rfl) ?_
  refine hpush _ ?_
  refine va_newa (a0 := (n, .inl (fun _ => 0))) hx hb (hts _ (List.mem_cons_of_mem _ haw)) rfl hK hP hD hS hA (fun cA => by rw [hdf]; rfl) hx0 hxn hby hcells hslots d2 (fun q cA H1 hK1 hP1 hD1 hS1 => ?_)
  have hcA : cA = cE := hun _ _ (hK1.2 2 (cA, newarray.typeOf a9) rfl).2 (hK.2 t0 _ hst).2
  subst hcA
  exact va_putF (N := m_nf cl) (ref := (m_Tt cl kf).1) (ty := tf) hx hb hts (fun w hw => List.mem_cons_of_mem _ (m_uws hc7 w hw)) (m_ty cl) (m_tyok hc7) (m_nmok hc7) hown hK hP1 hD1 hS1 0 rfl (m_cl hc7) kf hk (hts _ (List.mem_cons_of_mem _ (m_fl_word hfl))) (fun _ h => h) hfin hin hdecl hty (hnr q) (hfit q) hkl d3 (fun H2 locs2 a b d => kk q H2 locs2 ⟨a, b, d⟩)
/-- a number into a field -/
theorem q_int {tf : FieldType} {x : Int32} (F : q_F p s m args meth c cc w0 D cI cZ A cl) (S : q_S D A s H locs ((h0, .inr (cl, fs)) :: tl)) (hl : lv_has ls mxl ((0, .ref h0) :: lv))
    (hk : kf < m_nf cl) (hkl : kf < fs.length) (hfl : (cl, ix, cl, kf, 0) ∈ m_FL) (hfin : (m_Tt cl kf).2.2.2 = false) (hty : parseFieldDescriptor (m_Tt cl kf).2.2.1 = some tf) (hnr : narrow tf (.int x) = .int x) (hfit : fits tf (.int x) = true)
    (d0 : decode cc pc = .ok (.aload_n 0, 1)) (hpush : ∀ st : List Value, W p l e R s m args below meth c H locs cells slots Q (F0 m pc2 ls (.int x :: st)) → W p l e R s m args below meth c H locs cells slots Q (F0 m (pc + 1) ls st)) (d3 : decode cc pc2 = .ok (.putfield ix, 3))
    (kk : ∀ (H1 : Heap) (locs1 : List Loc), q_S D A s H1 locs1 ((h0, .inr (cl, fs.set kf (.int x))) :: tl) → W p l e R s m args below meth c H1 locs1 cells slots Q (F0 m (pc2 + 3) ls [])) :
    W p l e R s m args below meth c H locs cells slots Q (F0 m pc ls []) := by
  obtain ⟨hx, hb, hts, hown, hin, hK, hA, hc7⟩ := F
  obtain ⟨hP, hD, hS⟩ := S
  refine lv_aload_n hx hb d0 rfl (lv_at hl 0 rfl) ?_
  refine hpush _ ?_
  exact va_put (N := m_nf cl) (ref := (m_Tt cl kf).1) (ty := tf) hx hb hts (fun w hw => List.mem_cons_of_mem _ (m_uws hc7 w hw)) (m_ty cl) (m_tyok hc7) (m_nmok hc7) hown hK hP hD hS 0 rfl (m_cl hc7) kf hk (hts _ (List.mem_cons_of_mem _ (m_fl_word hfl))) (fun _ h => h) hfin hty hnr hfit hkl d3 (fun H2 locs2 a b d => kk H2 locs2 ⟨a, b, d⟩)
/-- the reference on top of the stack into a field -/
theorem q_top {tf : FieldType} {q : Nat} (F : q_F p s m args meth c cc w0 D cI cZ A cl) (S : q_S D A s H locs ((h0, .inr (cl, fs)) :: tl))
    (hk : kf < m_nf cl) (hkl : kf < fs.length) (hfl : (cl, ix, cl, kf, 0) ∈ m_FL) (hfin : (m_Tt cl kf).2.2.2 = true) (hdecl : (m_Tt cl kf).1 = m_R cl) (hty : parseFieldDescriptor (m_Tt cl kf).2.2.1 = some tf) (hnr : narrow tf (.ref q) = .ref q) (hfit : fits tf (.ref q) = true)
    (d3 : decode cc pc = .ok (.putfield ix, 3))
    (kk : ∀ (H1 : Heap) (locs1 : List Loc), q_S D A s H1 locs1 ((h0, .inr (cl, fs.set kf (.ref q))) :: tl) → W p l e R s m args below meth c H1 locs1 cells slots Q (F0 m (pc + 3) ls [])) :
    W p l e R s m args below meth c H locs cells slots Q (F0 m pc ls [.ref q, .ref h0]) := by
  obtain ⟨hx, hb, hts, hown, hin, hK, hA, hc7⟩ := F
  obtain ⟨hP, hD, hS⟩ := S
  exact va_putF (N := m_nf cl) (ref := (m_Tt cl kf).1) (ty := tf) hx hb hts (fun w hw => List.mem_cons_of_mem _ (m_uws hc7 w hw)) (m_ty cl) (m_tyok hc7) (m_nmok hc7) hown hK hP hD hS 0 rfl (m_cl hc7) kf hk (hts _ (List.mem_cons_of_mem _ (m_fl_word hfl))) (fun _ h => h) hfin hin hdecl hty hnr hfit hkl d3 (fun H2 locs2 a b d => kk H2 locs2 ⟨a, b, d⟩)
/-- the first two instructions: Object's constructor -/
theorem q_obj {k1 : Nat} (F : q_F p s m args meth c cc w0 D cI cZ A cl) (hml : c.maxLocals = mxl) (hl : lv_has ls mxl ((0, .ref h0) :: lv)) (hlk : Cond.methodLink (m_R cl) k1 objectInit ∈ m_gws) (hiw : Cond.instanceMethod objectInit ∈ m_gws) (hcw : Cond.code objectInit ⟨#[0xb1]⟩ 1 none ∈ m_gws) (hf : 1 ≤ R.frames) (hlo : 12 ≤ R.locals)
    (d0 : decode cc 0 = .ok (.aload_n 0, 1)) (d1 : decode cc 1 = .ok (.invokespecial k1, 3)) (kk : W p l e R s m args below meth c H locs cells slots Q (F0 m 4 ls [])) : W p l e R s m args below meth c H locs cells slots Q (F0 m 0 ls []) := by
  obtain ⟨hx, hb, hts, hown, hin, hK, hA, hc7⟩ := F
  refine lv_aload_n hx hb d0 rfl (lv_at hl 0 rfl) ?_
  exact W.objInit hx hb hown (hts _ (List.mem_cons_of_mem _ hlk)) (hts _ (List.mem_cons_of_mem _ hiw)) (hts _ (List.mem_cons_of_mem _ hcw)) rfl (by rw [hml]; exact hl.1) rfl d1 hf (by show 2 * 0 + 0 + 12 ≤ _; omega) kk
end QC
/-- where a constructor begins and ends -/
def q_Pc (D : va_G) (cI cZ : ClassId) (as : List Value) (ws : va_W) (sz : Nat) (N : State → Prop) : Array Value → State → Prop := va_Pc as (fun U => U.heap.size = sz ∧ va_P D vwCl ws U.heap ∧ va_K D vwCl (m_tys cI cZ) U ∧ va_D (fun _ => True) ws ∧ N U)
abbrev q_B (D : va_G) (cI cZ : ClassId) (A : Nat → Prop) (wf : (Nat → Nat) → va_W) (u : Nat → Nat) (t : State) : Prop := va_P D vwCl (wf u) t.heap ∧ va_K D vwCl (m_tys cI cZ) t ∧ va_D A (wf u)
def q_Qc (D : va_G) (cI cZ : ClassId) (wf : (Nat → Nat) → va_W) (A : Nat → Prop) : Array Value → State → Outcome → State → Prop := va_Qv (fun _ : Nat → Nat => True) (q_B D cI cZ A wf) A
def q_u (L : List Nat) : Nat → Nat := fun k => L.getD k 0
theorem q_iw : Cond.instanceMethod objectInit ∈ m_gws := m_gw_in (k := 83) (by decide +kernel)
theorem q_cw : Cond.code objectInit ⟨#[0xb1]⟩ 1 none ∈ m_gws := m_gw_in (k := 84) (by decide +kernel)
theorem q_a_int : Cond.arrayClass .int ∈ m_gws := m_gw_in (k := 120) (by decide +kernel)
theorem q_a_boolean : Cond.arrayClass .boolean ∈ m_gws := m_gw_in (k := 909) (by decide +kernel)
theorem q_a_long : Cond.arrayClass .long ∈ m_gws := m_gw_in (k := 1075) (by decide +kernel)
