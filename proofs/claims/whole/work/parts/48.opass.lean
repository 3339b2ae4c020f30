theorem afU {S : mS} {r : Nat → Int32} {i : Nat} {x : Int32} (hr : ∀ v, v < 6 → S.2.2 183 v = r v) : ∀ v, v < 6 → (sA S 183 i x).2.2 183 v = upd r i x v := fun v hv => by
  rw [sA_at]
  by_cases e : v = i
  · rw [e, upd_at, upd_at]
  · rw [upd_ne e, upd_ne e]
    exact hr v hv
theorem nzU {r : Nat → Int32} {i : Nat} {x : Int32} (hn : ∀ v, v < 6 → ¬ r v = 0) (hx : ¬ x = 0) : ∀ v, v < 6 → ¬ upd r i x v = 0 := fun v hv => by
  by_cases e : v = i
  · rw [e, upd_at]; exact hx
  · rw [upd_ne e]; exact hn v hv
theorem kB_af {f r : Nat → Int32} {i j : Nat} {x y : Int32} (hr : ∀ v, v < 6 → f v = r v) (hi : i < 6) (hj : j < 6) : ∀ v, v < 6 → kB f i x j y v = kB r i x j y v := fun v hv => by
  have u : ∀ v, v < 6 → upd f i (f i &&& x) v = upd r i (r i &&& x) v := fun v hv => by
    by_cases e : v = i
    · rw [e, upd_at, upd_at, hr i hi]
    · rw [upd_ne e, upd_ne e]; exact hr v hv
  unfold kB
  by_cases e : v = j
  · rw [e, upd_at, upd_at, u j hj]
  · rw [upd_ne e, upd_ne e]; exact u v hv
theorem kB_nz {r : Nat → Int32} {i j : Nat} {x y : Int32} (hn : ∀ v, v < 6 → ¬ r v = 0) (h1 : ¬ r i &&& x = 0) (h2 : ¬ kB r i x j y j = 0) : ∀ v, v < 6 → ¬ kB r i x j y v = 0 := fun v hv => by
  by_cases e : v = j
  · rw [e]; exact h2
  · unfold kB
    rw [upd_ne e]
    exact nzU hn h1 v hv
theorem kB_z {r : Nat → Int32} {i j : Nat} {x y : Int32} (h1 : r i &&& x = 0) : kB r i x j y i = 0 := by
  unfold kB
  by_cases e : i = j
  · rw [← e, upd_at, upd_at, h1]
    exact le.andl.eq le.zero
  · rw [upd_ne e, upd_at]; exact h1
theorem eg1z {e0 : oE} {i : Nat} (hi : i < 6) (h : e0.2 i = 0) : ∀ e ∈ [e0], ∃ v, v < 6 ∧ e.2 v = 0 := fun e he => by
  rw [List.mem_singleton] at he
  exact ⟨i, hi, by rw [he]; exact h⟩
theorem s_O_keepR {d : Nat} {S : mS} {Q : mQ} {a x : Int32} {r : Nat → Int32} (ha : vp_in a 6) (hr : ∀ v, v < 6 → S.2.2 183 v = r v) (h1 : ¬ r (tn a) &&& x = 0 → Q (some (.int 1)) (sA S 183 (tn a) (r (tn a) &&& x))) (h0 : r (tn a) &&& x = 0 → Q (some (.int 0)) (sA S 183 (tn a) (r (tn a) &&& x))) : Ev d n_X2_keep [.ref 2, .int a, .int x] S Q := by
  refine s_O_keep ha ?_
  rw [hr _ (V6 ha (by decide)).1]
  by_cases c : r (tn a) &&& x = 0
  · rw [bI_f (fun z => z c)]; exact h0 c
  · rw [bI_t c]; exact h1 c
theorem s_O_keepBothR {d : Nat} {S : mS} {Q : mQ} {a x b y : Int32} {r : Nat → Int32} (ha : vp_in a 6) (hb : vp_in b 6) (hr : ∀ v, v < 6 → S.2.2 183 v = r v) (hn : ∀ v, v < 6 → ¬ r v = 0)
    (h1 : ∀ S', Fr [] [183] S S' → (∀ v, v < 6 → S'.2.2 183 v = kB r (tn a) x (tn b) y v) → (∀ v, v < 6 → ¬ kB r (tn a) x (tn b) y v = 0) → Q (some (.int 1)) S')
    (h0 : ∀ S', Fr [] [183] S S' → (∃ v, v < 6 ∧ kB r (tn a) x (tn b) y v = 0) → Q (some (.int 0)) S') : Ev (d + 1) n_X2_keepBoth [.ref 2, .int a, .int x, .int b, .int y] S Q := by
  have la := (V6 ha (by decide)).1
  have lb := (V6 hb (by decide)).1
  refine s_O_keepBoth ha hb (fun c => ?_) (fun c S' hF e => ?_)
  · rw [hr _ la] at c
    exact h0 _ (Fr.rf.a (by decide)) ⟨tn a, la, kB_z c⟩
  · rw [hr _ la] at c
    have k := kB_af (x := x) (y := y) hr la lb
    rw [k _ lb]
    by_cases c2 : kB r (tn a) x (tn b) y (tn b) = 0
    · rw [bI_f (fun z => z c2)]
      exact h0 S' hF ⟨tn b, lb, c2⟩
    · rw [bI_t c2]
      exact h1 S' hF (fun v hv => by rw [e]; exact k v hv) (kB_nz hn c c2)
theorem only_nz {b : Int32} {lo hi : Int32} {l h : Nat} (hl : lo = nI l) (hh : hi = nI h) (h9 : h ≤ 9) (hl9 : l ≤ 9) (hb : lo ≤ b ∧ b ≤ hi) : ¬ 1 <<< (b &&& 31) = (0 : Int32) := by
  obtain ⟨t, -, t2, rfl⟩ := of_rng hl hh (by omega) (by omega) hb.1 hb.2
  exact ne0_bit.mpr ⟨t, by omega, by rw [hb_shl (by omega)]; exact decide_eq_true rfl⟩
theorem sh_and {m x y : Int32} (h : x &&& y = y) : sh (m &&& x) y ↔ sh m y := by
  unfold sh
  rw [Int32.and_assoc, h]
theorem CO_and {m : Int32} {al : Nat → Int32} : CO (m &&& 384) al = CO m al := by
  unfold CO
  have h1 : sh (m &&& 384) 128 ↔ sh m 128 := sh_and rfl
  have h2 : sh (m &&& 384) 256 ↔ sh m 256 := sh_and rfl
  by_cases c1 : sh m 128 <;> by_cases c2 : sh m 256 <;> (first | rw [if_pos c1, if_pos (h1.mpr c1)] | rw [if_neg c1, if_neg (fun z => c1 (h1.mp z))]) <;> (first | rw [if_pos c2, if_pos (h2.mpr c2)] | rw [if_neg c2, if_neg (fun z => c2 (h2.mp z))])
theorem CO_nz {m : Int32} {al : Nat → Int32} (h : sh m 384) (h1 : ¬ al 1 = 0) (h2 : ¬ al 2 = 0) : ¬ CO m al = 0 := by
  unfold CO
  rw [show (384 : Int32) = 128 ||| 256 from rfl, sh_or] at h
  rcases h with h | h
  · rw [if_pos h]; exact le.ne le.orl h1
  · rw [if_pos h]; exact le.ne le.orr h2

theorem s_O_pass_k0 {d : Nat} {S : mS} {Q : mQ} {al r : Nat → Int32} {nx a b c : Int32} (hw : wS 0 a b c) (hr : ∀ v, v < 6 → S.2.2 183 v = r v) (hn : ∀ v, v < 6 → ¬ r v = 0) (ha : ∀ w, w < 3 → al w = S.2.2 182 w) (hz : ∀ w, w < 3 → ¬ al w = 0)
    (h1 : ∀ S' t, Fr [] [183] S S' → (∀ v, v < 6 → S'.2.2 183 v = t v) → (∀ v, v < 6 → ¬ t v = 0) → egF 0 nx a b c al r = [(nx, t)] → Q (some (.int 1)) S')
    (h0 : ∀ S', Fr [] [183] S S' → (∀ e ∈ egF 0 nx a b c al r, ∃ v, v < 6 ∧ e.2 v = 0) → Q (some (.int 0)) S') : Wp (d + 2) n_X2_pass 1 [(0, .ref 2), (1, .int (nI 0)), (2, .int a), (3, .int b), (4, .int c)] [.int (nI 0)] S Q := by
  iterate 4 refine Wp.p rfl ?_
  refine Wp.i rfl (s_O_put (in_of (n := 6) (hw.2.1.1 rfl) (by decide)) ?_)
  exact Wp.r rfl (Or.inr rfl) (h1 _ _ (Fr.rf.a (by decide)) (afU hr) (nzU hn (by decide)) rfl)
theorem s_O_pass_k1 {d : Nat} {S : mS} {Q : mQ} {al r : Nat → Int32} {nx a b c : Int32} (hw : wS 1 a b c) (hr : ∀ v, v < 6 → S.2.2 183 v = r v) (hn : ∀ v, v < 6 → ¬ r v = 0) (ha : ∀ w, w < 3 → al w = S.2.2 182 w) (hz : ∀ w, w < 3 → ¬ al w = 0)
    (h1 : ∀ S' t, Fr [] [183] S S' → (∀ v, v < 6 → S'.2.2 183 v = t v) → (∀ v, v < 6 → ¬ t v = 0) → egF 1 nx a b c al r = [(nx, t)] → Q (some (.int 1)) S')
    (h0 : ∀ S', Fr [] [183] S S' → (∀ e ∈ egF 1 nx a b c al r, ∃ v, v < 6 ∧ e.2 v = 0) → Q (some (.int 0)) S') : Wp (d + 2) n_X2_pass 1 [(0, .ref 2), (1, .int (nI 1)), (2, .int a), (3, .int b), (4, .int c)] [.int (nI 1)] S Q := by
  iterate 4 refine Wp.p rfl ?_
  refine Wp.i rfl (s_only ?_)
  refine Wp.i rfl (s_O_put (in_of (n := 6) (hw.2.1.1 rfl) (by decide)) ?_)
  exact Wp.r rfl (Or.inr rfl) (h1 _ _ (Fr.rf.a (by decide)) (afU hr) (nzU hn (only_nz (l := 1) (h := 4) rfl rfl (by omega) (by omega) (hw.2.2.1.2.2.1 rfl))) rfl)
theorem s_O_pass_k2 {d : Nat} {S : mS} {Q : mQ} {al r : Nat → Int32} {nx a b c : Int32} (hw : wS 2 a b c) (hr : ∀ v, v < 6 → S.2.2 183 v = r v) (hn : ∀ v, v < 6 → ¬ r v = 0) (ha : ∀ w, w < 3 → al w = S.2.2 182 w) (hz : ∀ w, w < 3 → ¬ al w = 0)
    (h1 : ∀ S' t, Fr [] [183] S S' → (∀ v, v < 6 → S'.2.2 183 v = t v) → (∀ v, v < 6 → ¬ t v = 0) → egF 2 nx a b c al r = [(nx, t)] → Q (some (.int 1)) S')
    (h0 : ∀ S', Fr [] [183] S S' → (∀ e ∈ egF 2 nx a b c al r, ∃ v, v < 6 ∧ e.2 v = 0) → Q (some (.int 0)) S') : Wp (d + 2) n_X2_pass 1 [(0, .ref 2), (1, .int (nI 2)), (2, .int a), (3, .int b), (4, .int c)] [.int (nI 2)] S Q := by
  iterate 4 refine Wp.p rfl ?_
  refine Wp.i rfl (s_only ?_)
  refine Wp.i rfl (s_O_put (in_of (n := 6) (hw.2.1.1 rfl) (by decide)) ?_)
  exact Wp.r rfl (Or.inr rfl) (h1 _ _ (Fr.rf.a (by decide)) (afU hr) (nzU hn (only_nz (l := 5) (h := 9) rfl rfl (by omega) (by omega) (hw.2.2.1.2.2.2.1 rfl))) rfl)
theorem s_O_pass_k3 {d : Nat} {S : mS} {Q : mQ} {al r : Nat → Int32} {nx a b c : Int32} (hw : wS 3 a b c) (hr : ∀ v, v < 6 → S.2.2 183 v = r v) (hn : ∀ v, v < 6 → ¬ r v = 0) (ha : ∀ w, w < 3 → al w = S.2.2 182 w) (hz : ∀ w, w < 3 → ¬ al w = 0)
    (h1 : ∀ S' t, Fr [] [183] S S' → (∀ v, v < 6 → S'.2.2 183 v = t v) → (∀ v, v < 6 → ¬ t v = 0) → egF 3 nx a b c al r = [(nx, t)] → Q (some (.int 1)) S')
    (h0 : ∀ S', Fr [] [183] S S' → (∀ e ∈ egF 3 nx a b c al r, ∃ v, v < 6 ∧ e.2 v = 0) → Q (some (.int 0)) S') : Wp (d + 2) n_X2_pass 1 [(0, .ref 2), (1, .int (nI 3)), (2, .int a), (3, .int b), (4, .int c)] [.int (nI 3)] S Q := by
  iterate 6 refine Wp.p rfl ?_
  refine Wp.g rfl (in_of (n := 6) (hw.2.2.1.1 rfl) (by decide)) ?_
  refine (?_ : Wp (d + 2) n_X2_pass 133 [(0, .ref 2), (1, .int (nI 3)), (2, .int a), (3, .int b), (4, .int c)] [.int (S.2.2 183 (tn b)), .int a, .ref 2] S Q)
  rw [hr _ (V6 (in_of (n := 6) (hw.2.2.1.1 rfl) (by decide)) (by decide)).1]
  refine Wp.i rfl (s_O_put (in_of (n := 6) (hw.2.1.1 rfl) (by decide)) ?_)
  exact Wp.r rfl (Or.inr rfl) (h1 _ _ (Fr.rf.a (by decide)) (afU hr) (nzU hn (hn _ (V6 (in_of (n := 6) (hw.2.2.1.1 rfl) (by decide)) (by decide)).1)) rfl)
theorem s_O_pass_k6 {d : Nat} {S : mS} {Q : mQ} {al r : Nat → Int32} {nx a b c : Int32} (hw : wS 6 a b c) (hr : ∀ v, v < 6 → S.2.2 183 v = r v) (hn : ∀ v, v < 6 → ¬ r v = 0) (ha : ∀ w, w < 3 → al w = S.2.2 182 w) (hz : ∀ w, w < 3 → ¬ al w = 0)
    (h1 : ∀ S' t, Fr [] [183] S S' → (∀ v, v < 6 → S'.2.2 183 v = t v) → (∀ v, v < 6 → ¬ t v = 0) → egF 6 nx a b c al r = [(nx, t)] → Q (some (.int 1)) S')
    (h0 : ∀ S', Fr [] [183] S S' → (∀ e ∈ egF 6 nx a b c al r, ∃ v, v < 6 ∧ e.2 v = 0) → Q (some (.int 0)) S') : Wp (d + 2) n_X2_pass 1 [(0, .ref 2), (1, .int (nI 6)), (2, .int a), (3, .int b), (4, .int c)] [.int (nI 6)] S Q := by
  iterate 5 refine Wp.p rfl ?_
  refine Wp.g rfl (in_of (n := 11) (hw.2.2.1.2.2.2.2.1 rfl) (by decide)) ?_
  iterate 2 refine Wp.p rfl ?_
  refine Wp.i rfl (s_O_keepR (x := m_sv 500 (tn b) ||| 1) (in_of (n := 6) (hw.2.1.1 rfl) (by decide)) hr (fun z => ?_) (fun z => ?_))
  · refine Wp.b rfl (fun (e : (1 : Int32) = 0) => absurd e (by decide)) (fun _ => ?_)
    iterate 5 refine Wp.p rfl ?_
    refine Wp.g rfl (in_of (n := 6) (hw.2.1.1 rfl) (by decide)) ?_
    refine (?_ : Wp (d + 2) n_X2_pass 161 [(0, .ref 2), (1, .int (nI 6)), (2, .int a), (3, .int b), (4, .int c)] [.int ((sA S 183 (tn a) (r (tn a) &&& (m_sv 500 (tn b) ||| 1))).2.2 183 (tn a)), .int c, .ref 2] (sA S 183 (tn a) (r (tn a) &&& (m_sv 500 (tn b) ||| 1))) Q)
    rw [sA_at, upd_at]
    refine Wp.i rfl (s_O_put (in_of (n := 6) (hw.2.2.2.1 rfl) (by decide)) ?_)
    refine Wp.b rfl (fun (e : (1 : Int32) = 0) => absurd e (by decide)) (fun _ => ?_)
    iterate 2 refine Wp.p rfl ?_
    exact Wp.r rfl (Or.inr rfl) (h1 _ _ ((Fr.rf.a (by decide)).a (by decide)) (afU (afU hr)) (nzU (nzU hn z) z) rfl)
  · refine Wp.b rfl (fun _ => ?_) (fun (e : ¬ (0 : Int32) = 0) => absurd rfl e)
    iterate 1 refine Wp.p rfl ?_
    exact Wp.r rfl (Or.inl rfl) (h0 _ (Fr.rf.a (by decide)) (eg1z (V6 (in_of (n := 6) (hw.2.2.2.1 rfl) (by decide)) (by decide)).1 (upd_at.trans z)))
theorem s_O_pass_k7 {d : Nat} {S : mS} {Q : mQ} {al r : Nat → Int32} {nx a b c : Int32} (hw : wS 7 a b c) (hr : ∀ v, v < 6 → S.2.2 183 v = r v) (hn : ∀ v, v < 6 → ¬ r v = 0) (ha : ∀ w, w < 3 → al w = S.2.2 182 w) (hz : ∀ w, w < 3 → ¬ al w = 0)
    (h1 : ∀ S' t, Fr [] [183] S S' → (∀ v, v < 6 → S'.2.2 183 v = t v) → (∀ v, v < 6 → ¬ t v = 0) → egF 7 nx a b c al r = [(nx, t)] → Q (some (.int 1)) S')
    (h0 : ∀ S', Fr [] [183] S S' → (∀ e ∈ egF 7 nx a b c al r, ∃ v, v < 6 ∧ e.2 v = 0) → Q (some (.int 0)) S') : Wp (d + 2) n_X2_pass 1 [(0, .ref 2), (1, .int (nI 7)), (2, .int a), (3, .int b), (4, .int c)] [.int (nI 7)] S Q := by
  iterate 4 refine Wp.p rfl ?_
  refine Wp.i rfl (s_O_keepR (x := 30) (in_of (n := 6) (hw.2.2.1.1 rfl) (by decide)) hr (fun z => ?_) (fun z => ?_))
  · refine Wp.b rfl (fun (e : (1 : Int32) = 0) => absurd e (by decide)) (fun _ => ?_)
    iterate 5 refine Wp.p rfl ?_
    refine Wp.g rfl (show vp_in 0 3 by unfold vp_in; decide) ?_
    refine (?_ : Wp (d + 2) n_X2_pass 191 [(0, .ref 2), (1, .int (nI 7)), (2, .int a), (3, .int b), (4, .int c)] [.int (S.2.2 182 0), .int a, .ref 2] (sA S 183 (tn b) (r (tn b) &&& 30)) Q)
    rw [← ha 0 (by decide)]
    refine Wp.i rfl (s_O_put (in_of (n := 6) (hw.2.1.1 rfl) (by decide)) ?_)
    refine Wp.b rfl (fun (e : (1 : Int32) = 0) => absurd e (by decide)) (fun _ => ?_)
    iterate 2 refine Wp.p rfl ?_
    exact Wp.r rfl (Or.inr rfl) (h1 _ _ ((Fr.rf.a (by decide)).a (by decide)) (afU (afU hr)) (nzU (nzU hn z) (hz 0 (by decide))) (if_pos z))
  · refine Wp.b rfl (fun _ => ?_) (fun (e : ¬ (0 : Int32) = 0) => absurd rfl e)
    iterate 1 refine Wp.p rfl ?_
    refine Wp.r rfl (Or.inl rfl) (h0 _ (Fr.rf.a (by decide)) (fun e he => ?_))
    rw [show egF 7 nx a b c al r = [] from if_neg (fun y => y z)] at he
    cases he
theorem s_O_pass_k8 {d : Nat} {S : mS} {Q : mQ} {al r : Nat → Int32} {nx a b c : Int32} (hw : wS 8 a b c) (hr : ∀ v, v < 6 → S.2.2 183 v = r v) (hn : ∀ v, v < 6 → ¬ r v = 0) (ha : ∀ w, w < 3 → al w = S.2.2 182 w) (hz : ∀ w, w < 3 → ¬ al w = 0)
    (h1 : ∀ S' t, Fr [] [183] S S' → (∀ v, v < 6 → S'.2.2 183 v = t v) → (∀ v, v < 6 → ¬ t v = 0) → egF 8 nx a b c al r = [(nx, t)] → Q (some (.int 1)) S')
    (h0 : ∀ S', Fr [] [183] S S' → (∀ e ∈ egF 8 nx a b c al r, ∃ v, v < 6 ∧ e.2 v = 0) → Q (some (.int 0)) S') : Wp (d + 2) n_X2_pass 1 [(0, .ref 2), (1, .int (nI 8)), (2, .int a), (3, .int b), (4, .int c)] [.int (nI 8)] S Q := by
  iterate 4 refine Wp.p rfl ?_
  refine Wp.i rfl (s_O_keepR (x := 30) (in_of (n := 6) (hw.2.1.1 rfl) (by decide)) hr (fun z => ?_) (fun z => ?_))
  · exact Wp.r rfl (Or.inr rfl) (h1 _ _ (Fr.rf.a (by decide)) (afU hr) (nzU hn z) rfl)
  · exact Wp.r rfl (Or.inl rfl) (h0 _ (Fr.rf.a (by decide)) (eg1z (V6 (in_of (n := 6) (hw.2.1.1 rfl) (by decide)) (by decide)).1 (upd_at.trans z)))
theorem s_O_pass_k9 {d : Nat} {S : mS} {Q : mQ} {al r : Nat → Int32} {nx a b c : Int32} (hw : wS 9 a b c) (hr : ∀ v, v < 6 → S.2.2 183 v = r v) (hn : ∀ v, v < 6 → ¬ r v = 0) (ha : ∀ w, w < 3 → al w = S.2.2 182 w) (hz : ∀ w, w < 3 → ¬ al w = 0)
    (h1 : ∀ S' t, Fr [] [183] S S' → (∀ v, v < 6 → S'.2.2 183 v = t v) → (∀ v, v < 6 → ¬ t v = 0) → egF 9 nx a b c al r = [(nx, t)] → Q (some (.int 1)) S')
    (h0 : ∀ S', Fr [] [183] S S' → (∀ e ∈ egF 9 nx a b c al r, ∃ v, v < 6 ∧ e.2 v = 0) → Q (some (.int 0)) S') : Wp (d + 2) n_X2_pass 1 [(0, .ref 2), (1, .int (nI 9)), (2, .int a), (3, .int b), (4, .int c)] [.int (nI 9)] S Q := by
  iterate 5 refine Wp.p rfl ?_
  refine Wp.g rfl (show vp_in 8 11 by unfold vp_in; decide) ?_
  refine Wp.i rfl (s_O_keepR (x := 384) (in_of (n := 6) (hw.2.2.1.1 rfl) (by decide)) hr (fun z => ?_) (fun z => ?_))
  · refine Wp.b rfl (fun (e : (1 : Int32) = 0) => absurd e (by decide)) (fun _ => ?_)
    iterate 6 refine Wp.p rfl ?_
    refine Wp.g rfl (in_of (n := 6) (hw.2.2.1.1 rfl) (by decide)) ?_
    refine (?_ : Wp (d + 2) n_X2_pass 234 [(0, .ref 2), (1, .int (nI 9)), (2, .int a), (3, .int b), (4, .int c)] [.int ((sA S 183 (tn b) (r (tn b) &&& 384)).2.2 183 (tn b)), .ref 2, .int a, .ref 2] (sA S 183 (tn b) (r (tn b) &&& 384)) Q)
    rw [sA_at, upd_at]
    refine Wp.i rfl (s_O_cellsOf (al := al) (ha 1 (by decide)) (ha 2 (by decide)) ?_)
    rw [CO_and]
    refine Wp.i rfl (s_O_put (in_of (n := 6) (hw.2.1.1 rfl) (by decide)) ?_)
    refine Wp.b rfl (fun (e : (1 : Int32) = 0) => absurd e (by decide)) (fun _ => ?_)
    iterate 2 refine Wp.p rfl ?_
    exact Wp.r rfl (Or.inr rfl) (h1 _ _ ((Fr.rf.a (by decide)).a (by decide)) (afU (afU hr)) (nzU (nzU hn z) (CO_nz z (hz 1 (by decide)) (hz 2 (by decide)))) (if_pos z))
  · refine Wp.b rfl (fun _ => ?_) (fun (e : ¬ (0 : Int32) = 0) => absurd rfl e)
    iterate 1 refine Wp.p rfl ?_
    refine Wp.r rfl (Or.inl rfl) (h0 _ (Fr.rf.a (by decide)) (fun e he => ?_))
    rw [show egF 9 nx a b c al r = [] from if_neg (fun y => y z)] at he
    cases he
theorem s_O_pass_k10 {d : Nat} {S : mS} {Q : mQ} {al r : Nat → Int32} {nx a b c : Int32} (hw : wS 10 a b c) (hr : ∀ v, v < 6 → S.2.2 183 v = r v) (hn : ∀ v, v < 6 → ¬ r v = 0) (ha : ∀ w, w < 3 → al w = S.2.2 182 w) (hz : ∀ w, w < 3 → ¬ al w = 0)
    (h1 : ∀ S' t, Fr [] [183] S S' → (∀ v, v < 6 → S'.2.2 183 v = t v) → (∀ v, v < 6 → ¬ t v = 0) → egF 10 nx a b c al r = [(nx, t)] → Q (some (.int 1)) S')
    (h0 : ∀ S', Fr [] [183] S S' → (∀ e ∈ egF 10 nx a b c al r, ∃ v, v < 6 ∧ e.2 v = 0) → Q (some (.int 0)) S') : Wp (d + 2) n_X2_pass 1 [(0, .ref 2), (1, .int (nI 10)), (2, .int a), (3, .int b), (4, .int c)] [.int (nI 10)] S Q := by
  have ea := hr _ (V6 (in_of (n := 6) (hw.2.1.1 rfl) (by decide)) (by decide)).1
  have eb := hr _ (V6 (in_of (n := 6) (hw.2.2.1.1 rfl) (by decide)) (by decide)).1
  iterate 6 refine Wp.p rfl ?_
  refine Wp.g rfl (in_of (n := 6) (hw.2.2.1.1 rfl) (by decide)) ?_
  refine (?_ : Wp (d + 2) n_X2_pass 257 [(0, .ref 2), (1, .int (nI 10)), (2, .int a), (3, .int b), (4, .int c)] [.int (S.2.2 183 (tn b)), .int a, .ref 2] S Q)
  rw [eb]
  refine Wp.i rfl (s_O_arraysThatTake ?_)
  iterate 4 refine Wp.p rfl ?_
  refine Wp.g rfl (in_of (n := 6) (hw.2.1.1 rfl) (by decide)) ?_
  refine (?_ : Wp (d + 2) n_X2_pass 267 [(0, .ref 2), (1, .int (nI 10)), (2, .int a), (3, .int b), (4, .int c)] [.int (S.2.2 183 (tn a)), .int b, .int (TK (r (tn b))), .int a, .ref 2] S Q)
  rw [ea]
  refine Wp.i rfl (s_O_kindsTakenBy ?_)
  refine Wp.i rfl (s_O_keepBothR (in_of (n := 6) (hw.2.1.1 rfl) (by decide)) (in_of (n := 6) (hw.2.2.1.1 rfl) (by decide)) hr hn (fun S' f e z => ?_) (fun S' f z => ?_))
  · exact Wp.r rfl (Or.inr rfl) (h1 S' _ f e z rfl)
  · obtain ⟨v, hv, z⟩ := z
    exact Wp.r rfl (Or.inl rfl) (h0 S' f (eg1z hv z))
theorem s_O_pass_k11 {d : Nat} {S : mS} {Q : mQ} {al r : Nat → Int32} {nx a b c : Int32} (hw : wS 11 a b c) (hr : ∀ v, v < 6 → S.2.2 183 v = r v) (hn : ∀ v, v < 6 → ¬ r v = 0) (ha : ∀ w, w < 3 → al w = S.2.2 182 w) (hz : ∀ w, w < 3 → ¬ al w = 0)
    (h1 : ∀ S' t, Fr [] [183] S S' → (∀ v, v < 6 → S'.2.2 183 v = t v) → (∀ v, v < 6 → ¬ t v = 0) → egF 11 nx a b c al r = [(nx, t)] → Q (some (.int 1)) S')
    (h0 : ∀ S', Fr [] [183] S S' → (∀ e ∈ egF 11 nx a b c al r, ∃ v, v < 6 ∧ e.2 v = 0) → Q (some (.int 0)) S') : Wp (d + 2) n_X2_pass 1 [(0, .ref 2), (1, .int (nI 11)), (2, .int a), (3, .int b), (4, .int c)] [.int (nI 11)] S Q := by
  iterate 5 refine Wp.p rfl ?_
  refine Wp.g rfl (show vp_in 5 11 by unfold vp_in; decide) ?_
  refine Wp.i rfl (s_O_keepR (x := 20) (in_of (n := 6) (hw.2.2.1.1 rfl) (by decide)) hr (fun z => ?_) (fun z => ?_))
  · exact Wp.r rfl (Or.inr rfl) (h1 _ _ (Fr.rf.a (by decide)) (afU hr) (nzU hn z) rfl)
  · exact Wp.r rfl (Or.inl rfl) (h0 _ (Fr.rf.a (by decide)) (eg1z (V6 (in_of (n := 6) (hw.2.2.1.1 rfl) (by decide)) (by decide)).1 (upd_at.trans z)))
theorem s_O_pass_k12 {d : Nat} {S : mS} {Q : mQ} {al r : Nat → Int32} {nx a b c : Int32} (hw : wS 12 a b c) (hr : ∀ v, v < 6 → S.2.2 183 v = r v) (hn : ∀ v, v < 6 → ¬ r v = 0) (ha : ∀ w, w < 3 → al w = S.2.2 182 w) (hz : ∀ w, w < 3 → ¬ al w = 0)
    (h1 : ∀ S' t, Fr [] [183] S S' → (∀ v, v < 6 → S'.2.2 183 v = t v) → (∀ v, v < 6 → ¬ t v = 0) → egF 12 nx a b c al r = [(nx, t)] → Q (some (.int 1)) S')
    (h0 : ∀ S', Fr [] [183] S S' → (∀ e ∈ egF 12 nx a b c al r, ∃ v, v < 6 ∧ e.2 v = 0) → Q (some (.int 0)) S') : Wp (d + 2) n_X2_pass 1 [(0, .ref 2), (1, .int (nI 12)), (2, .int a), (3, .int b), (4, .int c)] [.int (nI 12)] S Q := by
  iterate 5 refine Wp.p rfl ?_
  refine Wp.g rfl (show vp_in 5 11 by unfold vp_in; decide) ?_
  refine Wp.i rfl (s_O_keepR (x := 20) (in_of (n := 6) (hw.2.2.1.1 rfl) (by decide)) hr (fun z => ?_) (fun z => ?_))
  · exact Wp.r rfl (Or.inr rfl) (h1 _ _ (Fr.rf.a (by decide)) (afU hr) (nzU hn z) rfl)
  · exact Wp.r rfl (Or.inl rfl) (h0 _ (Fr.rf.a (by decide)) (eg1z (V6 (in_of (n := 6) (hw.2.2.1.1 rfl) (by decide)) (by decide)).1 (upd_at.trans z)))
theorem s_O_pass_k13 {d : Nat} {S : mS} {Q : mQ} {al r : Nat → Int32} {nx a b c : Int32} (hw : wS 13 a b c) (hr : ∀ v, v < 6 → S.2.2 183 v = r v) (hn : ∀ v, v < 6 → ¬ r v = 0) (ha : ∀ w, w < 3 → al w = S.2.2 182 w) (hz : ∀ w, w < 3 → ¬ al w = 0)
    (h1 : ∀ S' t, Fr [] [183] S S' → (∀ v, v < 6 → S'.2.2 183 v = t v) → (∀ v, v < 6 → ¬ t v = 0) → egF 13 nx a b c al r = [(nx, t)] → Q (some (.int 1)) S')
    (h0 : ∀ S', Fr [] [183] S S' → (∀ e ∈ egF 13 nx a b c al r, ∃ v, v < 6 ∧ e.2 v = 0) → Q (some (.int 0)) S') : Wp (d + 2) n_X2_pass 1 [(0, .ref 2), (1, .int (nI 13)), (2, .int a), (3, .int b), (4, .int c)] [.int (nI 13)] S Q := by
  iterate 4 refine Wp.p rfl ?_
  refine Wp.i rfl (s_O_keepR (x := 992) (in_of (n := 6) (hw.2.2.1.1 rfl) (by decide)) hr (fun z => ?_) (fun z => ?_))
  · exact Wp.r rfl (Or.inr rfl) (h1 _ _ (Fr.rf.a (by decide)) (afU hr) (nzU hn z) rfl)
  · exact Wp.r rfl (Or.inl rfl) (h0 _ (Fr.rf.a (by decide)) (eg1z (V6 (in_of (n := 6) (hw.2.2.1.1 rfl) (by decide)) (by decide)).1 (upd_at.trans z)))
theorem s_O_pass_k14 {d : Nat} {S : mS} {Q : mQ} {al r : Nat → Int32} {nx a b c : Int32} (hw : wS 14 a b c) (hr : ∀ v, v < 6 → S.2.2 183 v = r v) (hn : ∀ v, v < 6 → ¬ r v = 0) (ha : ∀ w, w < 3 → al w = S.2.2 182 w) (hz : ∀ w, w < 3 → ¬ al w = 0)
    (h1 : ∀ S' t, Fr [] [183] S S' → (∀ v, v < 6 → S'.2.2 183 v = t v) → (∀ v, v < 6 → ¬ t v = 0) → egF 14 nx a b c al r = [(nx, t)] → Q (some (.int 1)) S')
    (h0 : ∀ S', Fr [] [183] S S' → (∀ e ∈ egF 14 nx a b c al r, ∃ v, v < 6 ∧ e.2 v = 0) → Q (some (.int 0)) S') : Wp (d + 2) n_X2_pass 1 [(0, .ref 2), (1, .int (nI 14)), (2, .int a), (3, .int b), (4, .int c)] [.int (nI 14)] S Q := by
  iterate 5 refine Wp.p rfl ?_
  refine Wp.g rfl (show vp_in 6 11 by unfold vp_in; decide) ?_
  refine Wp.i rfl (s_O_keepR (x := 32) (in_of (n := 6) (hw.2.2.1.1 rfl) (by decide)) hr (fun z => ?_) (fun z => ?_))
  · exact Wp.r rfl (Or.inr rfl) (h1 _ _ (Fr.rf.a (by decide)) (afU hr) (nzU hn z) rfl)
  · exact Wp.r rfl (Or.inl rfl) (h0 _ (Fr.rf.a (by decide)) (eg1z (V6 (in_of (n := 6) (hw.2.2.1.1 rfl) (by decide)) (by decide)).1 (upd_at.trans z)))
theorem s_O_pass_k15 {d : Nat} {S : mS} {Q : mQ} {al r : Nat → Int32} {nx a b c : Int32} (hw : wS 15 a b c) (hr : ∀ v, v < 6 → S.2.2 183 v = r v) (hn : ∀ v, v < 6 → ¬ r v = 0) (ha : ∀ w, w < 3 → al w = S.2.2 182 w) (hz : ∀ w, w < 3 → ¬ al w = 0)
    (h1 : ∀ S' t, Fr [] [183] S S' → (∀ v, v < 6 → S'.2.2 183 v = t v) → (∀ v, v < 6 → ¬ t v = 0) → egF 15 nx a b c al r = [(nx, t)] → Q (some (.int 1)) S')
    (h0 : ∀ S', Fr [] [183] S S' → (∀ e ∈ egF 15 nx a b c al r, ∃ v, v < 6 ∧ e.2 v = 0) → Q (some (.int 0)) S') : Wp (d + 2) n_X2_pass 1 [(0, .ref 2), (1, .int (nI 15)), (2, .int a), (3, .int b), (4, .int c)] [.int (nI 15)] S Q := by
  iterate 5 refine Wp.p rfl ?_
  refine Wp.g rfl (show vp_in 6 11 by unfold vp_in; decide) ?_
  refine Wp.i rfl (s_O_keepR (x := 32) (in_of (n := 6) (hw.2.1.1 rfl) (by decide)) hr (fun z => ?_) (fun z => ?_))
  · exact Wp.r rfl (Or.inr rfl) (h1 _ _ (Fr.rf.a (by decide)) (afU hr) (nzU hn z) rfl)
  · exact Wp.r rfl (Or.inl rfl) (h0 _ (Fr.rf.a (by decide)) (eg1z (V6 (in_of (n := 6) (hw.2.1.1 rfl) (by decide)) (by decide)).1 (upd_at.trans z)))
theorem s_O_pass_k16 {d : Nat} {S : mS} {Q : mQ} {al r : Nat → Int32} {nx a b c : Int32} (hw : wS 16 a b c) (hr : ∀ v, v < 6 → S.2.2 183 v = r v) (hn : ∀ v, v < 6 → ¬ r v = 0) (ha : ∀ w, w < 3 → al w = S.2.2 182 w) (hz : ∀ w, w < 3 → ¬ al w = 0)
    (h1 : ∀ S' t, Fr [] [183] S S' → (∀ v, v < 6 → S'.2.2 183 v = t v) → (∀ v, v < 6 → ¬ t v = 0) → egF 16 nx a b c al r = [(nx, t)] → Q (some (.int 1)) S')
    (h0 : ∀ S', Fr [] [183] S S' → (∀ e ∈ egF 16 nx a b c al r, ∃ v, v < 6 ∧ e.2 v = 0) → Q (some (.int 0)) S') : Wp (d + 2) n_X2_pass 1 [(0, .ref 2), (1, .int (nI 16)), (2, .int a), (3, .int b), (4, .int c)] [.int (nI 16)] S Q := by
  iterate 2 refine Wp.p rfl ?_
  exact Wp.r rfl (Or.inr rfl) (h1 S r Fr.rf hr hn rfl)
theorem s_O_pass_k17 {d : Nat} {S : mS} {Q : mQ} {al r : Nat → Int32} {nx a b c : Int32} (hw : wS 17 a b c) (hr : ∀ v, v < 6 → S.2.2 183 v = r v) (hn : ∀ v, v < 6 → ¬ r v = 0) (ha : ∀ w, w < 3 → al w = S.2.2 182 w) (hz : ∀ w, w < 3 → ¬ al w = 0)
    (h1 : ∀ S' t, Fr [] [183] S S' → (∀ v, v < 6 → S'.2.2 183 v = t v) → (∀ v, v < 6 → ¬ t v = 0) → egF 17 nx a b c al r = [(nx, t)] → Q (some (.int 1)) S')
    (h0 : ∀ S', Fr [] [183] S S' → (∀ e ∈ egF 17 nx a b c al r, ∃ v, v < 6 ∧ e.2 v = 0) → Q (some (.int 0)) S') : Wp (d + 2) n_X2_pass 1 [(0, .ref 2), (1, .int (nI 17)), (2, .int a), (3, .int b), (4, .int c)] [.int (nI 17)] S Q := by
  iterate 2 refine Wp.p rfl ?_
  exact Wp.r rfl (Or.inr rfl) (h1 S r Fr.rf hr hn rfl)
theorem s_O_pass_k18 {d : Nat} {S : mS} {Q : mQ} {al r : Nat → Int32} {nx a b c : Int32} (hw : wS 18 a b c) (hr : ∀ v, v < 6 → S.2.2 183 v = r v) (hn : ∀ v, v < 6 → ¬ r v = 0) (ha : ∀ w, w < 3 → al w = S.2.2 182 w) (hz : ∀ w, w < 3 → ¬ al w = 0)
    (h1 : ∀ S' t, Fr [] [183] S S' → (∀ v, v < 6 → S'.2.2 183 v = t v) → (∀ v, v < 6 → ¬ t v = 0) → egF 18 nx a b c al r = [(nx, t)] → Q (some (.int 1)) S')
    (h0 : ∀ S', Fr [] [183] S S' → (∀ e ∈ egF 18 nx a b c al r, ∃ v, v < 6 ∧ e.2 v = 0) → Q (some (.int 0)) S') : Wp (d + 2) n_X2_pass 1 [(0, .ref 2), (1, .int (nI 18)), (2, .int a), (3, .int b), (4, .int c)] [.int (nI 18)] S Q := by
  iterate 2 refine Wp.p rfl ?_
  exact Wp.r rfl (Or.inr rfl) (h1 S r Fr.rf hr hn rfl)
theorem s_O_pass_k22 {d : Nat} {S : mS} {Q : mQ} {al r : Nat → Int32} {nx a b c : Int32} (hw : wS 22 a b c) (hr : ∀ v, v < 6 → S.2.2 183 v = r v) (hn : ∀ v, v < 6 → ¬ r v = 0) (ha : ∀ w, w < 3 → al w = S.2.2 182 w) (hz : ∀ w, w < 3 → ¬ al w = 0)
    (h1 : ∀ S' t, Fr [] [183] S S' → (∀ v, v < 6 → S'.2.2 183 v = t v) → (∀ v, v < 6 → ¬ t v = 0) → egF 22 nx a b c al r = [(nx, t)] → Q (some (.int 1)) S')
    (h0 : ∀ S', Fr [] [183] S S' → (∀ e ∈ egF 22 nx a b c al r, ∃ v, v < 6 ∧ e.2 v = 0) → Q (some (.int 0)) S') : Wp (d + 2) n_X2_pass 1 [(0, .ref 2), (1, .int (nI 22)), (2, .int a), (3, .int b), (4, .int c)] [.int (nI 22)] S Q := by
  have ea := hr _ (V6 (in_of (n := 6) (hw.2.1.1 rfl) (by decide)) (by decide)).1
  have eb := hr _ (V6 (in_of (n := 6) (hw.2.2.1.1 rfl) (by decide)) (by decide)).1
  iterate 6 refine Wp.p rfl ?_
  refine Wp.g rfl (in_of (n := 6) (hw.2.2.1.1 rfl) (by decide)) ?_
  refine (?_ : Wp (d + 2) n_X2_pass 326 [(0, .ref 2), (1, .int (nI 22)), (2, .int a), (3, .int b), (4, .int c)] [.int (S.2.2 183 (tn b)), .int a, .ref 2] S Q)
  rw [eb]
  refine Wp.i rfl (s_O_movedTo ?_)
  iterate 4 refine Wp.p rfl ?_
  refine Wp.g rfl (in_of (n := 6) (hw.2.1.1 rfl) (by decide)) ?_
  refine (?_ : Wp (d + 2) n_X2_pass 336 [(0, .ref 2), (1, .int (nI 22)), (2, .int a), (3, .int b), (4, .int c)] [.int (S.2.2 183 (tn a)), .int b, .int (MV (r (tn b))), .int a, .ref 2] S Q)
  rw [ea]
  refine Wp.i rfl (s_O_movedFrom ?_)
  refine Wp.i rfl (s_O_keepBothR (in_of (n := 6) (hw.2.1.1 rfl) (by decide)) (in_of (n := 6) (hw.2.2.1.1 rfl) (by decide)) hr hn (fun S' f e z => ?_) (fun S' f z => ?_))
  · exact Wp.r rfl (Or.inr rfl) (h1 S' _ f e z rfl)
  · obtain ⟨v, hv, z⟩ := z
    exact Wp.r rfl (Or.inl rfl) (h0 S' f (eg1z hv z))
