theorem V6 {a : Int32} {n : Nat} (h : vp_in a n) (hn : n < 2 ^ 31) : tn a < n ∧ a = nI (tn a) := by
  have h2 := vp_in_iff.mp h
  obtain ⟨t, e⟩ : ∃ t : Nat, a.toInt = t := ⟨a.toInt.toNat, by omega⟩
  have ht : t < n := by omega
  have e2 : a = nI t := Int32.toInt_inj.mp (by rw [nI_toInt (by omega)]; exact e)
  rw [e2, tn_nI (by omega)]
  exact ⟨ht, rfl⟩
theorem i6 {s v : Nat} : nI s * 6 + nI v = nI (6 * s + v) := by rw [show (6 : Int32) = nI 6 from rfl, pk_mul, nI_add, Nat.mul_comm]
theorem s_O_kindsAt {d s : Nat} {S : mS} {Q : mQ} {a : Int32} (hs : s < 32) (ha : vp_in a 6) (h : Q (some (.int (S.2.2 181 (6 * s + tn a)))) S) : Ev d n_X2_kindsAt [.ref 2, .int (nI s), .int a] S Q := by
  obtain ⟨hv, ev⟩ := V6 ha (by omega)
  have e : nI s * 6 + a = nI (6 * s + tn a) := by rw [ev, i6, tn_nI (by omega)]
  iterate 7 refine Wp.p rfl ?_
  refine Wp.g rfl (show vp_in (nI s * 6 + a) 192 by rw [e]; exact vp_in_nI (N := 192) (by omega) (by omega)) ?_
  refine Wp.r rfl trivial ?_
  show Q (some (.int (S.2.2 181 (nI s * 6 + a).toNatClampNeg))) S
  rw [e, nI_clamp (by omega)]
  exact h
theorem s_O_begin_it {d s j : Nat} {S : mS} {Q : mQ} (hs : s < 32) (hj : j < 6) (h : Wp (d + 1) n_X2_begin 2 [(2, .int (nI (j + 1))), (0, .ref 2), (1, .int (nI s))] [] (sA S 183 j (S.2.2 181 (6 * s + j))) Q) : Wp (d + 1) n_X2_begin 2 [(2, .int (nI j)), (0, .ref 2), (1, .int (nI s))] [] S Q := by
  have tj : tn (nI j) = j := tn_nI (by omega)
  have hv : vp_in (nI j) 6 := vp_in_nI (N := 6) hj (by omega)
  iterate 2 refine Wp.p rfl ?_
  refine Wp.b rfl (fun (c : (6 : Int32) ≤ nI j) => absurd c (nI_ge (b := 6) hj (by decide))) (fun _ => ?_)
  iterate 6 refine Wp.p rfl ?_
  refine Wp.i rfl (s_O_kindsAt hs hv ?_)
  rw [tj]
  refine Wp.g rfl hv ?_
  iterate 2 refine Wp.p rfl ?_
  rw [← nI_1] at h
  refine Wp.sub (ls := [(2, .int (nI j + 1)), (0, .ref 2), (1, .int (nI s))]) ?_ (lS.mk rfl rfl (by repeat (first | exact lSub.nil | refine lSub.cons rfl ?_)))
  show Wp (d + 1) n_X2_begin 2 _ [] (sA S 183 (tn (nI j)) (S.2.2 181 (6 * s + j))) Q
  rw [tj]
  exact h
theorem s_O_begin {d s : Nat} {S : mS} {Q : mQ} (hs : s < 32) (h : ∀ S', Fr [] [183] S S' → (∀ v, v < 6 → S'.2.2 183 v = S.2.2 181 (6 * s + v)) → Q none S') : Ev (d + 1) n_X2_begin [.ref 2, .int (nI s)] S Q := by
  iterate 2 refine Wp.p rfl ?_
  refine (?_ : Wp (d + 1) n_X2_begin 2 [(2, .int (nI 0)), (0, .ref 2), (1, .int (nI s))] [] S Q).sub (lS.mk rfl rfl (by repeat (first | exact lSub.nil | refine lSub.cons rfl ?_)))
  refine s_O_begin_it hs (by omega) (s_O_begin_it hs (by omega) (s_O_begin_it hs (by omega) (s_O_begin_it hs (by omega) (s_O_begin_it hs (by omega) (s_O_begin_it hs (by omega) ?_)))))
  iterate 2 refine Wp.p rfl ?_
  refine Wp.bT rfl (by decide) ?_
  refine Wp.r rfl trivial (h _ ((((((Fr.rf.a (by decide)).a (by decide)).a (by decide)).a (by decide)).a (by decide)).a (by decide)) (fun v hv => ?_))
  match v, hv with
  | 0, _ => rfl
  | 1, _ => rfl
  | 2, _ => rfl
  | 3, _ => rfl
  | 4, _ => rfl
  | 5, _ => rfl
theorem s_O_put {d : Nat} {S : mS} {Q : mQ} {a x : Int32} (ha : vp_in a 6) (h : Q (some (.int 1)) (sA S 183 (tn a) x)) : Ev d n_X2_put [.ref 2, .int a, .int x] S Q := by
  repeat refine Wp.p rfl ?_
  refine Wp.g rfl ha ?_
  repeat refine Wp.p rfl ?_
  exact Wp.r rfl (Or.inr rfl) h
theorem sA_at {S : mS} {a i : Nat} {x : Int32} : (sA S a i x).2.2 a = upd (S.2.2 a) i x := if_pos rfl
theorem upd_at {f : Nat → Int32} {i : Nat} {x : Int32} : upd f i x i = x := if_pos rfl
theorem upd_ne {f : Nat → Int32} {i j : Nat} {x : Int32} (h : ¬ j = i) : upd f i x j = f j := if_neg h
theorem s_O_keep {d : Nat} {S : mS} {Q : mQ} {a x : Int32} (ha : vp_in a 6) (h : Q (some (.int (bI (¬ S.2.2 183 (tn a) &&& x = 0)))) (sA S 183 (tn a) (S.2.2 183 (tn a) &&& x))) : Ev d n_X2_keep [.ref 2, .int a, .int x] S Q := by
  repeat refine Wp.p rfl ?_
  refine Wp.g rfl ha ?_
  repeat refine Wp.p rfl ?_
  refine Wp.g rfl ha ?_
  repeat refine Wp.p rfl ?_
  refine Wp.g rfl ha ?_
  have e : (sA S 183 (tn a) (S.2.2 183 (tn a) &&& x)).2.2 183 (tn a) = S.2.2 183 (tn a) &&& x := by rw [sA_at]; exact upd_at
  refine Wp.b rfl (fun (c : (sA S 183 (tn a) (S.2.2 183 (tn a) &&& x)).2.2 183 (tn a) = 0) => ?_) (fun (c : ¬ (sA S 183 (tn a) (S.2.2 183 (tn a) &&& x)).2.2 183 (tn a) = 0) => ?_)
  · rw [e] at c
    rw [bI_f (fun z => z c)] at h
    repeat refine Wp.p rfl ?_
    exact Wp.r rfl (Or.inl rfl) h
  · rw [e] at c
    rw [bI_t c] at h
    repeat refine Wp.p rfl ?_
    exact Wp.r rfl (Or.inr rfl) h
theorem s_O_keepBoth {d : Nat} {S : mS} {Q : mQ} {a x b y : Int32} (ha : vp_in a 6) (hb : vp_in b 6)
    (h0 : S.2.2 183 (tn a) &&& x = 0 → Q (some (.int 0)) (sA S 183 (tn a) (S.2.2 183 (tn a) &&& x)))
    (h1 : ¬ S.2.2 183 (tn a) &&& x = 0 → ∀ S', Fr [] [183] S S' → S'.2.2 183 = kB (S.2.2 183) (tn a) x (tn b) y → Q (some (.int (bI (¬ kB (S.2.2 183) (tn a) x (tn b) y (tn b) = 0)))) S') : Ev (d + 1) n_X2_keepBoth [.ref 2, .int a, .int x, .int b, .int y] S Q := by
  repeat refine Wp.p rfl ?_
  refine Wp.i rfl (s_O_keep ha ?_)
  by_cases c : S.2.2 183 (tn a) &&& x = 0
  · rw [bI_f (fun z => z c)]
    refine Wp.b rfl (fun _ => ?_) (fun (e : ¬ (0 : Int32) = 0) => absurd rfl e)
    repeat refine Wp.p rfl ?_
    exact Wp.r rfl (Or.inl rfl) (h0 c)
  · rw [bI_t c]
    refine Wp.b rfl (fun (e : (1 : Int32) = 0) => absurd e (by decide)) (fun _ => ?_)
    repeat refine Wp.p rfl ?_
    refine Wp.i rfl (s_O_keep hb ?_)
    have h2 := h1 c _ ((Fr.rf.a (by decide)).a (by decide)) (sA_at (S := sA S 183 (tn a) (S.2.2 183 (tn a) &&& x)) (i := tn b) (x := (sA S 183 (tn a) (S.2.2 183 (tn a) &&& x)).2.2 183 (tn b) &&& y))
    have e : kB (S.2.2 183) (tn a) x (tn b) y (tn b) = (sA S 183 (tn a) (S.2.2 183 (tn a) &&& x)).2.2 183 (tn b) &&& y := upd_at
    rw [e] at h2
    by_cases c2 : (sA S 183 (tn a) (S.2.2 183 (tn a) &&& x)).2.2 183 (tn b) &&& y = 0
    · rw [bI_f (fun z => z c2)] at h2 ⊢
      refine Wp.b rfl (fun _ => ?_) (fun (e : ¬ (0 : Int32) = 0) => absurd rfl e)
      repeat refine Wp.p rfl ?_
      exact Wp.r rfl (Or.inl rfl) h2
    · rw [bI_t c2] at h2 ⊢
      refine Wp.b rfl (fun (e : (1 : Int32) = 0) => absurd e (by decide)) (fun _ => ?_)
      repeat refine Wp.p rfl ?_
      exact Wp.r rfl (Or.inr rfl) h2
