def m_in (k : Nat) (w : Cond) : Bool := decide (lw_tbl[k]? = some w)
def m_gw (k : Nat) (w : Cond) : Bool := m_in k w && goodWord w
def m_gws : List Cond := lw_tbl.filter goodWord
theorem m_in_in {k : Nat} {w : Cond} (h : m_in k w = true) : w ∈ lw_tbl := List.mem_of_getElem? (of_decide_eq_true h)
theorem m_gw_in {k : Nat} {w : Cond} (h : m_gw k w = true) : w ∈ m_gws := by
  unfold m_gw at h
  rw [Bool.and_eq_true] at h
  exact List.mem_filter.mpr ⟨m_in_in h.1, h.2⟩
/-- the words of a method: its code, all good words of the tables -/
def m_ws (M : Nat) : List Cond := .code (m_y M) (m_b M) (m_mx M) (m_rt M) :: m_gws
/-- a method's code word -/
def m_cw (M : Nat) : Cond := .code (m_y M) (m_b M) (m_mx M) (m_rt M)
theorem m_cw_good (M : Nat) : goodWord (m_cw M) = true := rfl
def m_okM (M : Nat) : Bool :=
  m_gw ((m_pk M).getD 1 0) (.initialized (m_R (m_ow M))) && decide ((m_y M).cls = m_R (m_ow M)) && plainName (m_y M).cls &&
  decide ((m_y M).cls ≠ "java/lang/invoke/MethodHandle") && decide ((m_y M).cls ≠ "java/lang/invoke/VarHandle") && decide ((parseMethodDescriptor (m_y M).desc).map (fun d => d.parameters.length) = some (m_np M)) &&
  (bif m_is M then m_gw ((m_pk M).getD 2 0) (.static (m_y M)) else (m_gw ((m_pk M).getD 2 0) (.instanceMethod (m_y M)) && m_gw ((m_pk M).getD 3 0) (.selects (m_R (m_ow M)) (m_y M) (m_y M)) && Nat.blt (m_ow M) 7)) && Nat.ble (m_mx M) 18
/-- how long an instruction is -/
def m_ln : Instr → Nat
  | .bipush _ | .iload _ | .lload _ | .istore _ | .ldc _ => 2
  | .sipush _ | .ldc2_w _ | .iinc _ _ | .goto _ | .ifCond _ _ | .if_icmp _ _ | .getfield _ | .putfield _ | .getstatic _ | .invokevirtual _ | .invokestatic _ => 3
  | _ => 1
def m_lkc (pc : Nat) : List (Int × Int) → List Nat → Bool
  | (_, o) :: ps, t :: ts => decide ((pc : Int) + o = (t : Int)) && m_lkc pc ps ts
  | [], [] => true
  | _, _ => false
def m_okx (M pc : Nat) (e : mE) : Bool := match e with
  | (i, nx, ex, c, c2) => match i with
    | .iconst v => decide (Int32.ofInt v = c) && Nat.beq nx (pc + 1)
    | .bipush v => decide ((Int8.ofInt v).toInt32 = c) && Nat.beq nx (pc + 2)
    | .sipush v => decide ((Int16.ofInt v).toInt32 = c) && Nat.beq nx (pc + 3)
    | .lconst v => decide (Int64.ofNat v.val = c2) && Nat.beq nx (pc + 1)
    | .ldc2_w ix => decide ((m_ow M, ix, c2) ∈ m_LL) && Nat.beq nx (pc + 3)
    | .istore k => Nat.blt k (m_mx M) && Nat.beq nx (pc + 2)
    | .istore_n k => Nat.blt k.val (m_mx M) && Nat.beq nx (pc + 1)
    | .iinc k v => Nat.blt k (m_mx M) && decide (Int32.ofInt v = c) && Nat.beq nx (pc + 3)
    | .goto off => match ex with
      | [t] => decide ((pc : Int) + off = (t : Int)) && Nat.beq nx (pc + 3)
      | _ => false
    | .ifCond _ off => match ex with
      | [t] => decide ((pc : Int) + off = (t : Int)) && Nat.beq nx (pc + 3)
      | _ => false
    | .if_icmp _ off => match ex with
      | [t] => decide ((pc : Int) + off = (t : Int)) && Nat.beq nx (pc + 3)
      | _ => false
    | .tableswitch dflt lo hi offs => decide ((pc : Int) + dflt = ((ex.getD 0 0 : Nat) : Int)) && decide (hi - lo + 1 = ((offs.toList.length : Nat) : Int)) && m_lkc pc (offs.toList.map fun o => (0, o)) (ex.drop 1)
    | .lookupswitch dflt ps => decide ((pc : Int) + dflt = ((ex.getD 0 0 : Nat) : Int)) && (ps.toList.zip (ps.toList.drop 1)).all (fun (a, next) => a.1 < next.1) && m_lkc pc ps.toList (ex.drop 1)
    | .getfield ix => match ex with
      | [c, k, q, kd, g] => (decide ((m_ow M, ix, c, k, 0) ∈ m_FL) || decide ((m_ow M, ix, c, k, 1) ∈ m_FL)) && Nat.beq q (40 * c + k) && decide (m_fd q = (kd, g)) && Nat.blt c 7 && Nat.blt k (m_nf c) && Nat.beq nx (pc + 3)
      | _ => false
    | .putfield ix => match ex with
      | [c, k, q, kd, g] => decide ((m_ow M, ix, c, k, 0) ∈ m_FL) && Nat.beq q (40 * c + k) && decide (m_fd q = (kd, g)) && Nat.blt c 7 && Nat.blt k (m_nf c) && Nat.beq nx (pc + 3)
      | _ => false
    | .getstatic ix => match ex with
      | [g] => decide ((m_ow M, ix, g) ∈ m_SL) && Nat.beq nx (pc + 3)
      | _ => false
    | .ldc ix => match ex with
      | [g] => (decide ((ix, g) ∈ [(31, 600), (43, 601), (45, 602)]) && Nat.beq (m_ow M) 3) && Nat.beq nx (pc + 2)
      | _ => false
    | .invokestatic ix => match ex with
      | [M'] => (decide ((m_ow M, ix, M', 0) ∈ m_ML) || decide ((m_ow M, ix, M', 1) ∈ m_ML)) && Nat.blt M' m_NM && Nat.beq nx (pc + 3)
      | _ => false
    | .invokevirtual ix => match ex with
      | [M'] => ((decide ((m_ow M, ix, M', 0) ∈ m_ML) && Nat.blt M' m_NM) || (Nat.beq M' 9999 && decide ((m_ow M, ix) ∈ m_DL))) && Nat.beq nx (pc + 3)
      | _ => false
    | .ireturn => match ex with
      | [0] => decide (m_rt M = some .int) && Nat.beq nx (pc + 1)
      | [1] => decide (m_rt M = some .boolean) && Nat.beq nx (pc + 1)
      | _ => false
    | .lreturn => decide (m_rt M = some .long) && Nat.beq nx (pc + 1)
    | .return_ => decide (m_rt M = none) && Nat.beq nx (pc + 1)
    | i => Nat.beq nx (pc + m_ln i)
def m_oke (M pc : Nat) (e : mE) : Bool := decide (decode (m_b M) pc = .ok (e.1, e.2.1 - pc)) && Nat.blt pc e.2.1 && m_okx M pc e
def m_okF (q : (Nat × Nat × Nat × Nat × Nat) × Nat) : Bool := match q with
  | ((o, ix, c, k, z), n) => bif Nat.beq z 0 then m_gw n (.fieldLink (m_R o) ix (m_Tt c k).1 (m_Tt c k).2.1 (m_Tt c k).2.2.1) else m_in n (Cond.fieldLinkNest (m_R o) ix (m_Tt c k).1 (m_Tt c k).2.1 (m_Tt c k).2.2.1 "NullKinds")
def m_okL (q : (Nat × Nat × Nat × Nat) × Nat) : Bool := match q with
  | ((o, ix, M', z), n) => bif Nat.beq z 0 then m_gw n (.methodLink (m_R o) ix (m_y M')) else m_in n (Cond.methodLinkNest (m_R o) ix (m_y M') "NullKinds")
def m_sn (g : Nat) : String := bif Nat.beq g 500 then "KINDS_OF_TYPE" else bif Nat.beq g 501 then "KINDS_FOR_CELL" else "KINDS_TO_MOVE_TO"
def m_okS (q : (Nat × Nat × Nat) × Nat) : Bool := match q with
  | ((o, ix, g), n) => m_in n (Cond.fieldLinkNest (m_R o) ix "NullKinds" (m_sn g) "[I" "NullKinds") && Nat.blt 499 g && Nat.blt g 503
def m_okJ (q : (Nat × Nat × Int64) × Nat) : Bool := m_gw q.2 (.constantLong (m_R q.1.1) q.1.2.1 q.1.2.2)
def m_kd (c k : Nat) : Bool := match (m_fd (40 * c + k)).1 with
  | 0 => decide (parseFieldDescriptor (m_Tt c k).2.2.1 = some .int) && !(m_Tt c k).2.2.2
  | 2 => decide (parseFieldDescriptor (m_Tt c k).2.2.1 = some .boolean) && !(m_Tt c k).2.2.2
  | 3 => decide (parseFieldDescriptor (m_Tt c k).2.2.1 = some .long) && !(m_Tt c k).2.2.2 && Nat.beq c 6 && Nat.beq k 9
  | 1 => true
  | _ => false
def m_okC (c : Nat) : Bool := (List.range (m_nf c)).all (fun k => m_gw ((m_up c).getD k 0) (u_lay (m_R c) (m_Tt c) k)) && (List.range (m_nf c)).all (fun k => decide (parseFieldDescriptor (m_Tt c k).2.2.1 = some (m_ty c k)) && m_kd c k) && (List.range (m_nf c)).all (fun a => (List.range (m_nf c)).all (fun b => Nat.beq a b || decide ((m_Tt c a).2.1 ≠ (m_Tt c b).2.1))) && Nat.ble (m_nf c) 40

set_option maxRecDepth 100000 in
theorem ok_F : m_FLc.all m_okF = true := by decide +kernel
set_option maxRecDepth 100000 in
theorem ok_L : m_MLc.all m_okL = true := by decide +kernel
set_option maxRecDepth 100000 in
theorem ok_S : m_SLc.all m_okS = true := by decide +kernel
set_option maxRecDepth 100000 in
theorem ok_J : m_LLc.all m_okJ = true := by decide +kernel
set_option maxRecDepth 100000 in
theorem ok_C : (List.range 7).all m_okC = true := by decide +kernel
set_option maxRecDepth 100000 in
theorem ok_M0 : ∀ j, j < 10 → m_okM (0 + j) = true := by decide +kernel
set_option maxRecDepth 100000 in
theorem cw_0 : (List.range 10).map (fun j => some (m_cw (0 + j))) = [355, 536, 395, 399, 402, 372, 455, 435, 443, 459].map (fun i => lw_tbl[i]?) := by rfl
set_option maxRecDepth 100000 in
theorem ok_M1 : ∀ j, j < 10 → m_okM (10 + j) = true := by decide +kernel
set_option maxRecDepth 100000 in
theorem cw_1 : (List.range 10).map (fun j => some (m_cw (10 + j))) = [406, 467, 502, 339, 528, 347, 351, 368, 516, 387].map (fun i => lw_tbl[i]?) := by rfl
set_option maxRecDepth 100000 in
theorem ok_M2 : ∀ j, j < 10 → m_okM (20 + j) = true := by decide +kernel
set_option maxRecDepth 100000 in
theorem cw_2 : (List.range 10).map (fun j => some (m_cw (20 + j))) = [508, 512, 391, 410, 414, 427, 439, 447, 463, 476].map (fun i => lw_tbl[i]?) := by rfl
set_option maxRecDepth 100000 in
theorem ok_M3 : ∀ j, j < 10 → m_okM (30 + j) = true := by decide +kernel
set_option maxRecDepth 100000 in
theorem cw_3 : (List.range 10).map (fun j => some (m_cw (30 + j))) = [480, 484, 488, 492, 496, 418, 431, 451, 532, 547].map (fun i => lw_tbl[i]?) := by rfl
set_option maxRecDepth 100000 in
theorem ok_M4 : ∀ j, j < 10 → m_okM (40 + j) = true := by decide +kernel
set_option maxRecDepth 100000 in
theorem cw_4 : (List.range 10).map (fun j => some (m_cw (40 + j))) = [556, 322, 581, 603, 707, 719, 727, 711, 595, 657].map (fun i => lw_tbl[i]?) := by rfl
set_option maxRecDepth 100000 in
theorem ok_M5 : ∀ j, j < 10 → m_okM (50 + j) = true := by decide +kernel
set_option maxRecDepth 100000 in
theorem cw_5 : (List.range 10).map (fun j => some (m_cw (50 + j))) = [586, 607, 599, 611, 616, 661, 665, 673, 677, 669].map (fun i => lw_tbl[i]?) := by rfl
set_option maxRecDepth 100000 in
theorem ok_M6 : ∀ j, j < 10 → m_okM (60 + j) = true := by decide +kernel
set_option maxRecDepth 100000 in
theorem cw_6 : (List.range 10).map (fun j => some (m_cw (60 + j))) = [692, 682, 685, 688, 695, 698, 620, 623, 630, 633].map (fun i => lw_tbl[i]?) := by rfl
set_option maxRecDepth 100000 in
theorem ok_M7 : ∀ j, j < 10 → m_okM (70 + j) = true := by decide +kernel
set_option maxRecDepth 100000 in
theorem cw_7 : (List.range 10).map (fun j => some (m_cw (70 + j))) = [639, 636, 643, 648, 653, 255, 299, 326, 335, 311].map (fun i => lw_tbl[i]?) := by rfl
set_option maxRecDepth 100000 in
theorem ok_M8 : ∀ j, j < 10 → m_okM (80 + j) = true := by decide +kernel
set_option maxRecDepth 100000 in
theorem cw_8 : (List.range 10).map (fun j => some (m_cw (80 + j))) = [364, 315, 360, 383, 376, 520, 565, 573, 808, 739].map (fun i => lw_tbl[i]?) := by rfl
set_option maxRecDepth 100000 in
theorem ok_M9 : ∀ j, j < 10 → m_okM (90 + j) = true := by decide +kernel
set_option maxRecDepth 100000 in
theorem cw_9 : (List.range 10).map (fun j => some (m_cw (90 + j))) = [252, 331, 343, 524, 542, 551, 560, 569, 577, 703].map (fun i => lw_tbl[i]?) := by rfl
set_option maxRecDepth 100000 in
theorem ok_M10 : ∀ j, j < 10 → m_okM (100 + j) = true := by decide +kernel
set_option maxRecDepth 100000 in
theorem cw_10 : (List.range 10).map (fun j => some (m_cw (100 + j))) = [715, 723, 302, 305, 379, 423, 590, 627, 913, 921].map (fun i => lw_tbl[i]?) := by rfl
set_option maxRecDepth 100000 in
theorem ok_M11 : ∀ j, j < 10 → m_okM (110 + j) = true := by decide +kernel
set_option maxRecDepth 100000 in
theorem cw_11 : (List.range 10).map (fun j => some (m_cw (110 + j))) = [924, 936, 939, 927, 944, 917, 948, 971, 956, 975].map (fun i => lw_tbl[i]?) := by rfl
set_option maxRecDepth 100000 in
theorem ok_M12 : ∀ j, j < 10 → m_okM (120 + j) = true := by decide +kernel
set_option maxRecDepth 100000 in
theorem cw_12 : (List.range 10).map (fun j => some (m_cw (120 + j))) = [964, 968, 979, 960, 987, 983, 991, 995, 952, 999].map (fun i => lw_tbl[i]?) := by rfl
set_option maxRecDepth 100000 in
theorem ok_M13 : ∀ j, j < 10 → m_okM (130 + j) = true := by decide +kernel
set_option maxRecDepth 100000 in
theorem cw_13 : (List.range 10).map (fun j => some (m_cw (130 + j))) = [1004, 1008, 1012, 1016, 1035, 1043, 1032, 1039, 1046, 1028].map (fun i => lw_tbl[i]?) := by rfl
set_option maxRecDepth 100000 in
theorem ok_M14 : ∀ j, j < 10 → m_okM (140 + j) = true := by decide +kernel
set_option maxRecDepth 100000 in
theorem cw_14 : (List.range 10).map (fun j => some (m_cw (140 + j))) = [1050, 1053, 1057, 1024, 1020, 1061, 1065, 1069, 1074, 318].map (fun i => lw_tbl[i]?) := by rfl
theorem m_cw_at {a : Nat} {ps : List Nat} (h : (List.range 10).map (fun j => some (m_cw (a + j))) = ps.map (fun i => lw_tbl[i]?)) {j : Nat} (hj : j < 10) : m_cw (a + j) ∈ lw_tbl := by
  have h1 : ((List.range 10).map (fun j => some (m_cw (a + j))))[j]? = some (some (m_cw (a + j))) := by
    rw [List.getElem?_map, List.getElem?_range hj]; rfl
  rw [h, List.getElem?_map] at h1
  cases hp : ps[j]? with
  | none => rw [hp] at h1; cases h1
  | some i => rw [hp] at h1; exact List.mem_of_getElem? (Option.some.inj h1)
theorem ok_M {M : Nat} (h : M < m_NM) : m_okM M = true ∧ m_cw M ∈ lw_tbl := by
  have hd : M = 10 * (M / 10) + M % 10 := by omega
  have hm : M % 10 < 10 := by omega
  have hq : M / 10 < 15 := by have h2 : M < 150 := h; omega
  generalize M / 10 = q at hd hq
  generalize M % 10 = j at hd hm
  subst hd
  match q, hq with
  | 0, _ => exact ⟨ok_M0 j hm, m_cw_at cw_0 hm⟩
  | 1, _ => exact ⟨ok_M1 j hm, m_cw_at cw_1 hm⟩
  | 2, _ => exact ⟨ok_M2 j hm, m_cw_at cw_2 hm⟩
  | 3, _ => exact ⟨ok_M3 j hm, m_cw_at cw_3 hm⟩
  | 4, _ => exact ⟨ok_M4 j hm, m_cw_at cw_4 hm⟩
  | 5, _ => exact ⟨ok_M5 j hm, m_cw_at cw_5 hm⟩
  | 6, _ => exact ⟨ok_M6 j hm, m_cw_at cw_6 hm⟩
  | 7, _ => exact ⟨ok_M7 j hm, m_cw_at cw_7 hm⟩
  | 8, _ => exact ⟨ok_M8 j hm, m_cw_at cw_8 hm⟩
  | 9, _ => exact ⟨ok_M9 j hm, m_cw_at cw_9 hm⟩
  | 10, _ => exact ⟨ok_M10 j hm, m_cw_at cw_10 hm⟩
  | 11, _ => exact ⟨ok_M11 j hm, m_cw_at cw_11 hm⟩
  | 12, _ => exact ⟨ok_M12 j hm, m_cw_at cw_12 hm⟩
  | 13, _ => exact ⟨ok_M13 j hm, m_cw_at cw_13 hm⟩
  | 14, _ => exact ⟨ok_M14 j hm, m_cw_at cw_14 hm⟩
