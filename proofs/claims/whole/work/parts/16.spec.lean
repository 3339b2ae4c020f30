/-- the running program's state: variables, numbers, kinds, lengths, nexts, cells, the row that MOVE goes by, how many objects -/
abbrev mM : Type := (Nat → Int32) × (Nat → Int32) × (Nat → Int32) × (Nat → Int32) × (Nat → Int32) × (Nat → Int32) × (Nat → Int32) × Int32
abbrev gV (m : mM) : Nat → Int32 := m.1
abbrev gN (m : mM) : Nat → Int32 := m.2.1
abbrev gK (m : mM) : Nat → Int32 := m.2.2.1
abbrev gL (m : mM) : Nat → Int32 := m.2.2.2.1
abbrev gX (m : mM) : Nat → Int32 := m.2.2.2.2.1
abbrev gC (m : mM) : Nat → Int32 := m.2.2.2.2.2.1
abbrev gW (m : mM) : Nat → Int32 := m.2.2.2.2.2.2.1
abbrev gM (m : mM) : Int32 := m.2.2.2.2.2.2.2
/-- as the class has it, as the model has it -/
def cV (S : mS) : mM := (S.2.2 143, S.2.2 144, S.2.2 100, S.2.2 101, S.2.2 102, S.2.2 103, S.2.2 104, S.1 5)
def dV (S : mS) : mM := (S.2.2 361, S.2.2 362, S.2.2 357, S.2.2 359, S.2.2 358, S.2.2 360, S.2.2 365, S.1 256)
abbrev tn (x : Int32) : Nat := x.toNatClampNeg
def kd (m : mM) (r : Int32) : Int32 := if 0 ≤ r then gK m (tn r) else if r = -2 then 5 else 0
def uFm (m : mM) (r k : Int32) : Int32 := if kd m r = 0 then 1 else if hB k (kd m r) then 0 else 2
def cFm (m : mM) (r k x : Int32) : Int32 := if kd m r = 0 then 1 else if hB k (kd m r) then (if 0 ≤ x ∧ x < gL m (tn r) then 0 else 3) else 2
def fstC (k : Int32) : Int32 := if k = 9 then -2 else if k = 7 ∨ k = 8 then -1 else 0
abbrev stV (m : mM) (i : Nat) (x : Int32) : mM := (upd m.1 i x, m.2)
abbrev stN (m : mM) (i : Nat) (x : Int32) : mM := (m.1, upd m.2.1 i x, m.2.2)
abbrev stX (m : mM) (i : Nat) (x : Int32) : mM := (gV m, gN m, gK m, gL m, upd (gX m) i x, gC m, gW m, gM m)
abbrev stC (m : mM) (i : Nat) (x : Int32) : mM := (gV m, gN m, gK m, gL m, gX m, upd (gC m) i x, gW m, gM m)
def newO (m : mM) (a : Nat) (k n : Int32) : mM := (upd (gV m) a (gM m), gN m, upd (gK m) (tn (gM m)) k, upd (gL m) (tn (gM m)) n, upd (gX m) (tn (gM m)) (-1), fillC (gC m) (20 * tn (gM m)) (fstC k) (tn n), gW m, gM m + 1)
def faceN (m : mM) (r : Int32) (z : Bool) : Int32 := bif z then 2 * ((if kd m r = 2 then 100 else 200) + r) + (if kd m r = 2 then 0 else 1) else (if kd m r = 2 then 100 else 200) + r
/-- may an array of this kind have that -/
def okC (m : mM) (t : Int32) (r : Int32) : Bool := decide (t = 5 ∨ t = 6) || decide (hB (m_sv 501 (tn t)) (kd m r))
def mvM (m : mM) (f t st n : Int32) : Int32 × mM :=
  if kd m f = 0 ∨ kd m t = 0 then (1, m) else if hB (m_sv 502 (tn (kd m f))) (kd m t) then
    (if n < 0 ∨ st < 0 ∨ gL m (tn f) < n ∨ gL m (tn t) - n < st then (3, m) else
      ((mvF (cpW (gW m) (gC m) (20 * tn f) (tn n)) (okC m (kd m t)) (20 * tn t + tn st) (tn n) 0 (gC m)).1, (gV m, gN m, gK m, gL m, gX m, (mvF (cpW (gW m) (gC m) (20 * tn f) (tn n)) (okC m (kd m t)) (20 * tn t + tn st) (tn n) 0 (gC m)).2, cpW (gW m) (gC m) (20 * tn f) (tn n), gM m)))
  else (4, m)
/-- what a step does: its fault, what is then -/
def doS (m : mM) (k : Nat) (a b c : Int32) : Int32 × mM := match k with
  | 0 => (0, stV m (tn a) (-1))
  | 1 => if gM m = 40 then (8, m) else (0, newO m (tn a) b 0)
  | 2 => if gN m (tn c) < 0 then (5, m) else if 20 < gN m (tn c) ∨ gM m = 40 then (8, m) else (0, newO m (tn a) b (gN m (tn c)))
  | 3 => (0, stV m (tn a) (gV m (tn b)))
  | 6 => if hB (m_sv 500 (tn b) ||| 1) (kd m (gV m (tn a))) then (0, stV m (tn c) (gV m (tn a))) else (2, m)
  | 7 => if uFm m (gV m (tn b)) 30 = 0 then (0, stV m (tn a) (gX m (tn (gV m (tn b))))) else (uFm m (gV m (tn b)) 30, m)
  | 8 => if uFm m (gV m (tn a)) 30 = 0 then (0, stX m (tn (gV m (tn a))) (gV m (tn b))) else (uFm m (gV m (tn a)) 30, m)
  | 9 => if cFm m (gV m (tn b)) 384 (gN m (tn c)) = 0 then (0, stV m (tn a) (gC m (20 * tn (gV m (tn b)) + tn (gN m (tn c))))) else (cFm m (gV m (tn b)) 384 (gN m (tn c)), m)
  | 10 => if ¬ hB 385 (kd m (gV m (tn a))) ∨ ¬ hB 31 (kd m (gV m (tn b))) then (2, m) else if cFm m (gV m (tn a)) 384 (gN m (tn c)) = 0 then (if hB (m_sv 501 (tn (kd m (gV m (tn a))))) (kd m (gV m (tn b))) then (0, stC m (20 * tn (gV m (tn a)) + tn (gN m (tn c))) (gV m (tn b))) else (4, m)) else (cFm m (gV m (tn a)) 384 (gN m (tn c)), m)
  | 11 => if uFm m (gV m (tn b)) 20 = 0 then (0, stN m (tn a) (faceN m (gV m (tn b)) false)) else (uFm m (gV m (tn b)) 20, m)
  | 12 => if uFm m (gV m (tn b)) 20 = 0 then (0, stN m (tn a) (faceN m (gV m (tn b)) true)) else (uFm m (gV m (tn b)) 20, m)
  | 13 => if uFm m (gV m (tn b)) 992 = 0 then (0, stN m (tn a) (gL m (tn (gV m (tn b))))) else (uFm m (gV m (tn b)) 992, m)
  | 14 => if cFm m (gV m (tn b)) 32 (gN m (tn c)) = 0 then (0, stN m (tn a) (gC m (20 * tn (gV m (tn b)) + tn (gN m (tn c))))) else (cFm m (gV m (tn b)) 32 (gN m (tn c)), m)
  | 15 => if cFm m (gV m (tn a)) 32 (gN m (tn b)) = 0 then (0, stC m (20 * tn (gV m (tn a)) + tn (gN m (tn b))) (gN m (tn c))) else (cFm m (gV m (tn a)) 32 (gN m (tn b)), m)
  | 16 => (0, stN m (tn a) b)
  | 17 => (0, stN m (tn a) (gN m (tn a) + gN m (tn b)))
  | 18 => if gN m (tn b) = 0 then (6, m) else (0, stN m (tn a) (gN m (tn a) / gN m (tn b)))
  | 21 => (7, m)
  | 22 => mvM m (gV m (tn a)) (gV m (tn b)) (gN m (tn c)) (gN m 3)
  | _ => (0, m)
/-- where a step leads to, without a fault -/
def nxS (m : mM) (k : Nat) (a b c nx : Int32) : Int32 := match k with
  | 4 => if hB (m_sv 500 (tn b)) (kd m (gV m (tn a))) then c else nx
  | 5 => if gV m (tn a) = -1 then c else nx
  | 19 => if gN m (tn a) < gN m (tn b) then c else nx
  | 20 => a
  | _ => nx
def vr (k : Nat) (r : Int32) : Prop := r = -1 ∨ ∃ j, j < k ∧ r = nI j
/-- k objects, all in order -/
def WFk (k : Nat) (m : mM) : Prop := k ≤ 40 ∧ gM m = nI k ∧ (∀ v, v < 6 → vr k (gV m v)) ∧ ∀ o, o < k → (∃ t, 1 ≤ t ∧ t ≤ 9 ∧ gK m o = nI t) ∧ (∃ n, n ≤ 20 ∧ gL m o = nI n ∧ (7 ≤ gK m o → ∀ i, i < n → (vr k (gC m (20 * o + i)) ∨ gC m (20 * o + i) = -2) ∧ hB (m_sv 501 (tn (gK m o))) (kd m (gC m (20 * o + i))))) ∧ vr k (gX m o)
/-- what a letter asks of a number: 86 V, 78 N, 75 K, 65 A, 84 T, 83 S -/
def fitL (ch v : Int32) : Prop := (ch = 86 → 0 ≤ v ∧ v < 6) ∧ (ch = 78 → 0 ≤ v ∧ v < 4) ∧ (ch = 75 → 1 ≤ v ∧ v ≤ 4) ∧ (ch = 65 → 5 ≤ v ∧ v ≤ 9) ∧ (ch = 84 → 0 ≤ v ∧ v < 11) ∧ (ch = 83 → 0 ≤ v ∧ v ≤ 32)
def wS (k : Nat) (a b c : Int32) : Prop := k < 24 ∧ fitL ((m_chs.getD 0 []).getD k 0) a ∧ fitL ((m_chs.getD 1 []).getD k 0) b ∧ fitL ((m_chs.getD 2 []).getD k 0) c
theorem in_of {x : Int32} {n : Nat} (h : 0 ≤ x ∧ x < nI n) (hn : n < 2 ^ 31) : vp_in x n := vp_in_of2 h.1 h.2 (by rw [nI_toInt hn]; exact Int.le_refl _)
theorem tn_nI {n : Nat} (h : n < 2 ^ 31) : tn (nI n) = n := nI_clamp h
theorem m1_lt0 : ¬ (0 : Int32) ≤ -1 := by decide
theorem kOf_kd {k : Nat} {S : mS} {r : Int32} (h5 : S.1 5 = nI k) (hk : k ≤ 40) (hr : vr k r ∨ r = -2) : kOf S r = kd (cV S) r := by
  unfold kOf kd
  rcases hr with (rfl | ⟨j, hj, rfl⟩) | rfl
  · rw [if_neg (fun q => m1_lt0 q.1), if_neg m1_lt0]
  · rw [if_pos ⟨nI_pos' (by omega), by rw [h5]; exact nI_lt hj (by omega)⟩, if_pos (nI_pos' (by omega))]; rfl
  · rw [if_neg (fun q => absurd q.1 (by decide)), if_pos rfl, if_neg (by decide)]
theorem vr_in {k : Nat} {m : mM} {r : Int32} (hk : k ≤ 40) (hr : vr k r) (h : ¬ kd m r = 0) : vp_in r 40 ∧ ∃ j, j < k ∧ r = nI j := by
  rcases hr with rfl | ⟨j, hj, rfl⟩
  · exact absurd (by unfold kd; rw [if_neg m1_lt0, if_neg (by decide)]) h
  · exact ⟨vp_in_nI (by omega) (by omega), j, hj, rfl⟩
