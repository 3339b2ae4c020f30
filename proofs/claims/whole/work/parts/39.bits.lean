/-- a set has the element k -/
def hb (x : Int32) (k : Nat) : Bool := x.toBitVec.getLsbD k
theorem hb_and {x y : Int32} {k : Nat} : hb (x &&& y) k = (hb x k && hb y k) := by
  unfold hb
  rw [Int32.toBitVec_and, BitVec.getLsbD_and]
theorem hb_or {x y : Int32} {k : Nat} : hb (x ||| y) k = (hb x k || hb y k) := by
  unfold hb
  rw [Int32.toBitVec_or, BitVec.getLsbD_or]
theorem hb_ge {x : Int32} {k : Nat} (h : 32 ≤ k) : hb x k = false := BitVec.getLsbD_of_ge _ _ h
theorem hb_not {x : Int32} {k : Nat} (h : k < 32) : hb (x ^^^ -1) k = !hb x k := by
  unfold hb
  rw [Int32.toBitVec_xor, BitVec.getLsbD_xor, show (-1 : Int32).toBitVec = BitVec.allOnes 32 from rfl, BitVec.getLsbD_allOnes]
  rw [decide_eq_true h, Bool.xor_true]
theorem hb_ext {x y : Int32} (h : ∀ k, k < 32 → hb x k = hb y k) : x = y := by
  have : x.toBitVec = y.toBitVec := BitVec.eq_of_getLsbD_eq (fun i hi => h i hi)
  exact Int32.toBitVec_inj.mp this
theorem hb_0 {k : Nat} : hb 0 k = false := by
  unfold hb
  rw [show (0 : Int32).toBitVec = 0#32 from rfl, BitVec.getLsbD_zero]
theorem ne0_bit {x : Int32} : ¬ x = 0 ↔ ∃ k, k < 32 ∧ hb x k = true := by
  constructor
  · intro h
    by_cases c : ∃ k, k < 32 ∧ hb x k = true
    · exact c
    · exact absurd (hb_ext (fun k hk => by
        rw [hb_0]
        cases e : hb x k with
        | false => rfl
        | true => exact absurd ⟨k, hk, e⟩ c)) h
  · rintro ⟨k, hk, e⟩ z
    rw [z, hb_0] at e
    cases e
/-- one set has an element of the other -/
abbrev sh (x y : Int32) : Prop := ¬ x &&& y = 0
theorem sh_bit {x y : Int32} : sh x y ↔ ∃ k, k < 32 ∧ hb x k = true ∧ hb y k = true := by
  rw [show sh x y ↔ ∃ k, k < 32 ∧ hb (x &&& y) k = true from ne0_bit]
  constructor
  · rintro ⟨k, hk, e⟩
    rw [hb_and, Bool.and_eq_true] at e
    exact ⟨k, hk, e.1, e.2⟩
  · rintro ⟨k, hk, e1, e2⟩
    exact ⟨k, hk, by rw [hb_and, e1, e2]; rfl⟩
/-- all elements of the one are in the other -/
def le (x y : Int32) : Prop := ∀ k, hb x k = true → hb y k = true
theorem le.rf {x : Int32} : le x x := fun _ h => h
theorem le.tr {x y z : Int32} (h : le x y) (h2 : le y z) : le x z := fun k e => h2 k (h k e)
theorem le.eq {x y : Int32} (h : le x y) (h2 : le y x) : x = y := hb_ext (fun k _ => by
  cases e : hb x k with
  | true => exact (h k e).symm
  | false =>
    cases e2 : hb y k with
    | false => rfl
    | true => rw [h2 k e2] at e; cases e)
theorem le.zero {y : Int32} : le 0 y := fun k e => by rw [hb_0] at e; cases e
theorem le.or {x x' y y' : Int32} (h : le x x') (h2 : le y y') : le (x ||| y) (x' ||| y') := fun k e => by
  rw [hb_or, Bool.or_eq_true] at e
  rw [hb_or, Bool.or_eq_true]
  exact e.imp (h k) (h2 k)
theorem le.and {x x' y y' : Int32} (h : le x x') (h2 : le y y') : le (x &&& y) (x' &&& y') := fun k e => by
  rw [hb_and, Bool.and_eq_true] at e
  rw [hb_and, Bool.and_eq_true]
  exact ⟨h k e.1, h2 k e.2⟩
theorem le.orl {x y : Int32} : le x (x ||| y) := fun k e => by rw [hb_or, e]; rfl
theorem le.orr {x y : Int32} : le y (x ||| y) := fun k e => by rw [hb_or, e, Bool.or_true]
theorem le.lub {x y z : Int32} (h : le x z) (h2 : le y z) : le (x ||| y) z := fun k e => by
  rw [hb_or, Bool.or_eq_true] at e
  exact e.elim (h k) (h2 k)
theorem le.andl {x y : Int32} : le (x &&& y) x := fun k e => by rw [hb_and, Bool.and_eq_true] at e; exact e.1
theorem le.andr {x y : Int32} : le (x &&& y) y := fun k e => by rw [hb_and, Bool.and_eq_true] at e; exact e.2
theorem le_or {x y : Int32} : le x y ↔ x ||| y = y := by
  constructor
  · intro h
    exact (le.lub h le.rf).eq le.orr
  · intro h k e
    rw [← h, hb_or, e]
    rfl
theorem le.or' {x y : Int32} (h : le x y) : y ||| x = y := (le.lub le.rf h).eq le.orl
theorem le_of_or {x y : Int32} (h : y ||| x = y) : le x y := fun k e => by rw [← h, hb_or, e, Bool.or_true]
theorem le_sh {x y : Int32} : le x y ↔ ¬ sh x (y ^^^ -1) := by
  constructor
  · intro h z
    obtain ⟨k, hk, e1, e2⟩ := sh_bit.mp z
    rw [hb_not hk, h k e1] at e2
    cases e2
  · intro h k e
    cases e2 : hb y k with
    | true => rfl
    | false =>
      refine absurd (sh_bit.mpr ⟨k, ?_, e, ?_⟩) h
      · rcases Nat.lt_or_ge k 32 with z | z
        · exact z
        · rw [hb_ge z] at e; cases e
      · rw [hb_not, e2]
        · rfl
        · rcases Nat.lt_or_ge k 32 with z | z
          · exact z
          · rw [hb_ge z] at e; cases e
theorem le.sh {x x' y y' : Int32} (h : le x x') (h2 : le y y') (h3 : sh x y) : sh x' y' := by
  obtain ⟨k, hk, e1, e2⟩ := sh_bit.mp h3
  exact sh_bit.mpr ⟨k, hk, h k e1, h2 k e2⟩
theorem le.ne {x x' : Int32} (h : le x x') (h2 : ¬ x = 0) : ¬ x' = 0 := by
  obtain ⟨k, hk, e⟩ := ne0_bit.mp h2
  exact ne0_bit.mpr ⟨k, hk, h k e⟩
theorem le.ite {p p' : Prop} [Decidable p] [Decidable p'] {x x' : Int32} (hp : p → p') (h : le x x') : le (if p then x else 0) (if p' then x' else 0) := by
  by_cases c : p
  · rw [if_pos c, if_pos (hp c)]; exact h
  · rw [if_neg c]; exact le.zero
theorem le_and {x y : Int32} : le x y ↔ x &&& y = x := by
  constructor
  · intro h
    exact le.andl.eq (fun k e => by rw [hb_and, e, h k e]; rfl)
  · intro h k e
    rw [← h, hb_and, Bool.and_eq_true] at e
    exact e.2
theorem sh_nI : ∀ k, k < 32 → (nI k &&& 31).toBitVec.smod 32 = BitVec.ofNat 32 k := by decide
theorem hb_shl {k j : Nat} (hk : k < 32) : hb (1 <<< (nI k &&& 31)) j = decide (j = k) := by
  unfold hb
  rw [Int32.toBitVec_shiftLeft, sh_nI k hk, BitVec.shiftLeft_eq', BitVec.toNat_ofNat, Nat.mod_eq_of_lt (by omega : k < 2 ^ 32), show (1 : Int32).toBitVec = BitVec.twoPow 32 0 from rfl, BitVec.getLsbD_shiftLeft, BitVec.getLsbD_twoPow]
  by_cases e : j = k
  · subst e
    simp [hk]
  · rw [decide_eq_false e]
    by_cases h1 : j < k
    · simp [h1]
    · have : ¬ 0 = j - k := by omega
      rw [decide_eq_false this]
      simp
theorem and1 (x : Int32) : x &&& 1 = 0 ↔ hb x 0 = false := by
  have one : ∀ k, hb 1 k = decide (k = 0) := fun k => hb_shl (k := 0) (j := k) (by decide)
  constructor
  · intro h
    cases e : hb x 0 with
    | false => rfl
    | true =>
      have : hb (x &&& 1) 0 = true := by rw [hb_and, e, one]; rfl
      rw [h, hb_0] at this
      cases this
  · intro h
    refine hb_ext (fun k _ => ?_)
    rw [hb_and, hb_0, one]
    by_cases e : k = 0
    · rw [e, h]; rfl
    · rw [decide_eq_false e, Bool.and_false]
theorem hb_shr {x : Int32} {k : Nat} (hk : k < 32) : hb (x >>> (nI k &&& 31)) 0 = hb x k := by
  unfold hb
  rw [Int32.toBitVec_shiftRight, sh_nI k hk, BitVec.sshiftRight_eq', BitVec.toNat_ofNat, Nat.mod_eq_of_lt (by omega : k < 2 ^ 32), BitVec.getLsbD_sshiftRight]
  simp [hk]
theorem hB_hb {x : Int32} {k : Nat} (hk : k < 32) : hB x (nI k) ↔ hb x k = true := by
  unfold hB
  rw [and1, hb_shr hk]
  cases hb x k <;> simp
theorem ush_nI : ∀ k, k < 32 → ((nI k).toUInt32 &&& Int32.toUInt32 31).toBitVec % 32 = BitVec.ofNat 32 k := by decide
theorem hb_ushr {x : Int32} {k : Nat} (hk : k < 32) : hb (x.toUInt32 >>> ((nI k).toUInt32 &&& Int32.toUInt32 31)).toInt32 0 = hb x k := by
  unfold hb
  rw [UInt32.toBitVec_toInt32, UInt32.toBitVec_shiftRight, ush_nI k hk, BitVec.ushiftRight_eq', BitVec.toNat_ofNat, Nat.mod_eq_of_lt (by omega : k < 2 ^ 32), BitVec.getLsbD_ushiftRight, Int32.toBitVec_toUInt32]
  simp
theorem uB_hb {x : Int32} {k : Nat} (hk : k < 32) : ((x.toUInt32 >>> ((nI k).toUInt32 &&& Int32.toUInt32 31)).toInt32 &&& 1 = 0) ↔ hb x k = false := by
  rw [and1, hb_ushr hk]
/-- a set of one element -/
theorem and_bit {x : Int32} {k : Nat} (hk : k < 32) {c : Int32} (hc : c = 1 <<< (nI k &&& 31)) : x &&& c = if hb x k = true then c else 0 := by
  refine hb_ext (fun j _ => ?_)
  rw [hb_and, hc, hb_shl hk]
  by_cases e : j = k
  · subst e
    cases h : hb x j with
    | true => rw [if_pos rfl, hb_shl hk]; rfl
    | false => rw [if_neg (by decide), hb_0]; rfl
  · rw [decide_eq_false e, Bool.and_false]
    cases h : hb x k with
    | true => rw [if_pos rfl, hb_shl hk, decide_eq_false e]
    | false => rw [if_neg (by decide), hb_0]
theorem sh_1 {x : Int32} {k : Nat} (hk : k < 32) {c : Int32} (hc : c = 1 <<< (nI k &&& 31)) : sh x c ↔ hb x k = true := by
  rw [show sh x c ↔ ¬ x &&& c = 0 from Iff.rfl, and_bit hk hc]
  cases h : hb x k with
  | true => rw [if_pos rfl, hc]; exact ⟨fun _ => rfl, fun _ => ne0_bit.mpr ⟨k, hk, by rw [hb_shl hk]; exact decide_eq_true rfl⟩⟩
  | false => rw [if_neg (by decide)]; exact ⟨fun z => absurd rfl z, fun z => by cases z⟩
theorem sh_or {x y z : Int32} : sh x (y ||| z) ↔ sh x y ∨ sh x z := by
  rw [sh_bit, sh_bit, sh_bit]
  constructor
  · rintro ⟨k, hk, e1, e2⟩
    rw [hb_or, Bool.or_eq_true] at e2
    exact e2.imp (fun e => ⟨k, hk, e1, e⟩) (fun e => ⟨k, hk, e1, e⟩)
  · rintro (⟨k, hk, e1, e2⟩ | ⟨k, hk, e1, e2⟩)
    · exact ⟨k, hk, e1, by rw [hb_or, e2]; rfl⟩
    · exact ⟨k, hk, e1, by rw [hb_or, e2, Bool.or_true]⟩
