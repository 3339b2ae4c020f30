/-- what was seen, with the kinds of the first v variables at step i -/
def ntF (sn : Nat → Int32) (m : mM) (i : Nat) : Nat → Nat → Int32
  | 0 => sn
  | v + 1 => upd (ntF sn m i v) (6 * i + v) (ntF sn m i v (6 * i + v) ||| 1 <<< (kd m (gV m v) &&& 31))
/-- how a run ends: 0 ended, 1 thrown, 2 spent; steps done; ended with; fault; its step; the state; seen; had -/
abbrev rR : Type := Int32 × Nat × Int32 × Int32 × Int32 × mM × (Nat → Int32) × (Nat → Int32)
def rnF (n : Nat) (co pa pb pc ph : Nat → Int32) : Nat → Nat → Int32 → Nat → mM → (Nat → Int32) → (Nat → Int32) → rR
  | 0, dn, s, _, m, sn, hd => if 0 ≤ s ∧ s < nI n then (2, dn, 0, 0, -3, m, sn, hd) else (0, dn, 0, 0, -3, m, sn, hd)
  | left + 1, dn, s, many, m, sn, hd => if 0 ≤ s ∧ s < nI n then
      (if (doS m (tn (co (tn s))) (pa (tn s)) (pb (tn s)) (pc (tn s))).1 = 0 then
        (if tn (co (tn s)) = 23 then (0, dn + 1, gN m (tn (pa (tn s))), 0, -3, (doS m (tn (co (tn s))) (pa (tn s)) (pb (tn s)) (pc (tn s))).2, ntF sn m (tn s) 6, hd)
         else rnF n co pa pb pc ph left (dn + 1) (nxS m (tn (co (tn s))) (pa (tn s)) (pb (tn s)) (pc (tn s)) (s + 1)) many (doS m (tn (co (tn s))) (pa (tn s)) (pb (tn s)) (pc (tn s))).2 (ntF sn m (tn s) 6) hd)
       else (if 8 ≤ many then (2, dn + 1, 0, 0, -3, (doS m (tn (co (tn s))) (pa (tn s)) (pb (tn s)) (pc (tn s))).2, ntF sn m (tn s) 6, upd hd (tn s) (hd (tn s) ||| 1 <<< ((doS m (tn (co (tn s))) (pa (tn s)) (pb (tn s)) (pc (tn s))).1 &&& 31)))
         else if ph (tn s) < 0 then (1, dn + 1, 0, (doS m (tn (co (tn s))) (pa (tn s)) (pb (tn s)) (pc (tn s))).1, s, (doS m (tn (co (tn s))) (pa (tn s)) (pb (tn s)) (pc (tn s))).2, ntF sn m (tn s) 6, upd hd (tn s) (hd (tn s) ||| 1 <<< ((doS m (tn (co (tn s))) (pa (tn s)) (pb (tn s)) (pc (tn s))).1 &&& 31)))
         else rnF n co pa pb pc ph left (dn + 1) (ph (tn s)) (many + 1) (stN (doS m (tn (co (tn s))) (pa (tn s)) (pb (tn s)) (pc (tn s))).2 2 (doS m (tn (co (tn s))) (pa (tn s)) (pb (tn s)) (pc (tn s))).1) (ntF sn m (tn s) 6) (upd hd (tn s) (hd (tn s) ||| 1 <<< ((doS m (tn (co (tn s))) (pa (tn s)) (pb (tn s)) (pc (tn s))).1 &&& 31)))))
    else (0, dn, 0, 0, -3, m, sn, hd)
/-- a program in order -/
def PW (n : Nat) (co pa pb pc ph : Nat → Int32) : Prop := n ≤ 32 ∧ ∀ i, i < n → (∃ k, co i = nI k ∧ wS k (pa i) (pb i) (pc i)) ∧ (-1 ≤ ph i ∧ ph i ≤ 32)
abbrev cP (S : mS) (n : Nat) : Prop := S.1 125 = nI n ∧ PW n (S.2.2 220) (S.2.2 221) (S.2.2 222) (S.2.2 223) (S.2.2 224)
theorem s_M_meetFault {d i many : Nat} {S : mS} {Q : mQ} {f : Int32} (hi : i < 32) (hm : S.1 47 = nI many) (hm2 : many < 100)
    (h2 : 8 ≤ many → Q none (sF (sF (sA S 261 i (S.2.2 261 i ||| 1 <<< (f &&& 31))) 47 (nI (many + 1))) 48 2))
    (h1 : ¬ 8 ≤ many → S.2.2 224 i < 0 → Q none (sF (sF (sF (sF (sA S 261 i (S.2.2 261 i ||| 1 <<< (f &&& 31))) 47 (nI (many + 1))) 48 1) 50 f) 51 (nI i)))
    (h0 : ¬ 8 ≤ many → ¬ S.2.2 224 i < 0 → Q none (sF (sA (sF (sA S 261 i (S.2.2 261 i ||| 1 <<< (f &&& 31))) 47 (nI (many + 1))) 144 2 f) 45 (S.2.2 224 i))) : Ev (d + 1) n_X1_meetFault [.ref 1, .int (nI i), .int f] S Q := by
  have ti : (nI i).toNatClampNeg = i := nI_clamp (by omega)
  have e47 : S.1 47 + 1 = nI (many + 1) := by rw [hm, nI_1]
  repeat refine Wp.p rfl ?_
  refine Wp.i rfl (s_W_noteFault (vp_in_nI hi (by omega)) ?_)
  rw [ti]
  repeat refine Wp.p rfl ?_
  refine Wp.g rfl (vp_in_nI (N := 32) hi (by omega)) ?_
  repeat refine Wp.p rfl ?_
  show Wp _ _ _ _ _ (sF (sA S 261 i (S.2.2 261 i ||| 1 <<< (f &&& 31))) 47 (S.1 47 + 1)) Q
  rw [e47]
  refine Wp.b rfl (fun (c : S.1 47 + 1 ≤ 8) => ?_) (fun (c : ¬ S.1 47 + 1 ≤ 8) => ?_)
  · have hlt : ¬ 8 ≤ many := by
      rw [e47] at c
      have := (nI_leI (a := many + 1) (b := 8) (by omega) (by decide)).mp c
      omega
    repeat refine Wp.p rfl ?_
    refine Wp.b rfl (fun (c2 : 0 ≤ S.2.2 224 (nI i).toNatClampNeg) => ?_) (fun (c2 : ¬ 0 ≤ S.2.2 224 (nI i).toNatClampNeg) => ?_)
    · rw [ti] at c2
      repeat refine Wp.p rfl ?_
      refine Wp.g rfl (show vp_in 2 4 by unfold vp_in; decide) ?_
      repeat refine Wp.p rfl ?_
      have h0' := h0 hlt (Int32.not_lt.mpr c2)
      refine Wp.r rfl trivial ?_
      show Q none (sF (sA (sF (sA S 261 i (S.2.2 261 i ||| 1 <<< (f &&& 31))) 47 (nI (many + 1))) 144 2 f) 45 (S.2.2 224 (nI i).toNatClampNeg))
      rw [ti]
      exact h0'
    · rw [ti] at c2
      repeat refine Wp.p rfl ?_
      exact Wp.r rfl trivial (h1 hlt (Int32.not_le.mp c2))
  · have hlt : 8 ≤ many := by
      rw [e47] at c
      rcases Nat.lt_or_ge many 8 with z | z
      · exact absurd (nI_le (a := many + 1) (b := 8) (by omega) (by decide)) c
      · exact z
    repeat refine Wp.p rfl ?_
    exact Wp.r rfl trivial (h2 hlt)
theorem s_M_noteLoop {d k0 i : Nat} {Q : mQ} {m : mM} (hi : i < 32) (S0 : mS) (hW : WFk k0 (cV S0)) (hQ : ∀ S', Fr [] [260] S0 S' → S'.2.2 260 = ntF (S0.2.2 260) (cV S0) i 6 → Wp (d + 2) n_X1_takeStep 36 [(2, .int (nI 6)), (0, .ref 1), (1, .int (nI i))] [] S' Q) : ∀ (n v : Nat) (S : mS), v + n = 6 → Fr [] [260] S0 S → S.2.2 260 = ntF (S0.2.2 260) (cV S0) i v →
    Wp (d + 2) n_X1_takeStep 2 [(2, .int (nI v)), (0, .ref 1), (1, .int (nI i))] [] S Q := by
  intro n
  induction n with
  | zero =>
    intro v S hv hF hC
    obtain rfl : v = 6 := by omega
    iterate 2 refine Wp.p rfl ?_
    refine Wp.b rfl (fun _ => ?_) (fun (c : ¬ (6 : Int32) ≤ nI 6) => absurd (by decide) c)
    exact hQ S hF hC
  | succ n ih =>
    intro v S hv hF hC
    have hlt : v < 6 := by omega
    have tv : (nI v).toNatClampNeg = v := nI_clamp (by omega)
    have e6 : nI i * 6 + nI v = nI (6 * i + v) := by rw [show (6 : Int32) = nI 6 from rfl, pk_mul, nI_add, Nat.mul_comm]
    have ecv : cV S = cV S0 := by
      unfold cV
      rw [hF.2.2 143 (by decide), hF.2.2 144 (by decide), hF.2.2 100 (by decide), hF.2.2 101 (by decide), hF.2.2 102 (by decide), hF.2.2 103 (by decide), hF.2.2 104 (by decide), hF.1 5 (by decide)]
    have hWS : WFk k0 (cV S) := by rw [ecv]; exact hW
    have hvr : vr k0 (S.2.2 143 v) := hWS.2.2.1 v hlt
    iterate 2 refine Wp.p rfl ?_
    refine Wp.b rfl (fun (c : (6 : Int32) ≤ nI v) => absurd c (nI_ge (b := 6) hlt (by decide))) (fun _ => ?_)
    repeat refine Wp.p rfl ?_
    refine Wp.g rfl (vp_in_nI (N := 6) hlt (by omega)) ?_
    refine Wp.i rfl (s_H_kindOf (wf_m hWS) ?_)
    refine Wp.i rfl (s_W_noteKind (by rw [e6]; exact vp_in_nI (by omega) (by omega)) ?_)
    iterate 2 refine Wp.p rfl ?_
    show Wp (d + 2) n_X1_takeStep 2 [(2, .int (nI v + 1)), (0, .ref 1), (1, .int (nI i))] [] _ Q
    rw [nI_1]
    refine ih (v + 1) _ (by omega) (hF.a (by decide)) ?_
    show upd (S.2.2 260) (nI i * 6 + nI v).toNatClampNeg (S.2.2 260 (nI i * 6 + nI v).toNatClampNeg ||| 1 <<< (kOf S (S.2.2 143 (nI v).toNatClampNeg) &&& 31)) = _
    rw [e6, nI_clamp (by omega), tv, hC, wf_k hWS hvr, ecv, hF.2.2 143 (by decide)]
    rfl
