def bt (x : Int32) (i : Nat) : Bool := x.toBitVec.getLsbD i
theorem b_ext {x y : Int32} (h : ∀ i, i < 32 → bt x i = bt y i) : x = y := Int32.toBitVec_inj.mp (BitVec.eq_of_getLsbD_eq (fun i hi => h i hi))
theorem b_or (x y : Int32) (i : Nat) : bt (x ||| y) i = (bt x i || bt y i) := by unfold bt; rw [Int32.toBitVec_or, BitVec.getLsbD_or]
theorem b_and (x y : Int32) (i : Nat) : bt (x &&& y) i = (bt x i && bt y i) := by unfold bt; rw [Int32.toBitVec_and, BitVec.getLsbD_and]
theorem b_xor (x y : Int32) (i : Nat) : bt (x ^^^ y) i = (bt x i ^^ bt y i) := by unfold bt; rw [Int32.toBitVec_xor, BitVec.getLsbD_xor]
theorem b_big {x : Int32} {i : Nat} (h : 32 ≤ i) : bt x i = false := BitVec.getLsbD_of_ge _ _ h
theorem b_m1 : ∀ i, i < 32 → bt (-1) i = true := by decide +kernel
theorem b_0 (i : Nat) : bt 0 i = false := BitVec.getLsbD_zero
theorem s_l : ∀ n, n < 32 → ((nI n &&& 31).toBitVec.smod 32).toNat = n := by decide +kernel
theorem b_shl (n : Nat) (hn : n < 32) (x : Int32) {i : Nat} (hi : i < 32) : bt (x <<< (nI n &&& 31)) i = (decide (n ≤ i) && bt x (i - n)) := by
  unfold bt
  rw [Int32.toBitVec_shiftLeft]
  show (x.toBitVec <<< ((nI n &&& 31).toBitVec.smod 32).toNat).getLsbD i = _
  rw [s_l n hn, BitVec.getLsbD_shiftLeft]
  rcases Nat.lt_or_ge i n with h | h
  · simp [h, Nat.not_le.mpr h]
  · simp [hi, h, Nat.not_lt.mpr h]
theorem b_sshr (n : Nat) (hn : n < 32) (x : Int32) {i : Nat} (hi : i < 32) : bt (x >>> (nI n &&& 31)) i = if n + i < 32 then bt x (n + i) else bt x 31 := by
  unfold bt
  rw [Int32.toBitVec_shiftRight]
  show (x.toBitVec.sshiftRight ((nI n &&& 31).toBitVec.smod 32).toNat).getLsbD i = _
  rw [s_l n hn, BitVec.getLsbD_sshiftRight, BitVec.msb_eq_getLsbD_last]
  simp [hi]
/-! bit sets of methods, and THE ORDER as a sequence of bit sets -/
theorem or_bt1 : ∀ i, i < 32 → bt 1 i = decide (i = 0) := by decide +kernel
theorem or_b1 (x : Int32) : x &&& 1 = 1 ↔ bt x 0 = true := by
  constructor
  · intro h
    have h1 := congrArg (fun y => bt y 0) h
    simp only [b_and, or_bt1 0 (by omega)] at h1
    simpa using h1
  · intro h
    refine b_ext (fun i hi => ?_)
    rw [b_and, or_bt1 i hi]
    by_cases e : i = 0
    · rw [e, h]; rfl
    · rw [decide_eq_false e, Bool.and_false]
theorem or_b0 (x : Int32) : x &&& 1 = 0 ↔ bt x 0 = false := by
  constructor
  · intro h
    have h1 := congrArg (fun y => bt y 0) h
    simp only [b_and, or_bt1 0 (by omega), b_0] at h1
    simpa using h1
  · intro h
    refine b_ext (fun i hi => ?_)
    rw [b_and, or_bt1 i hi, b_0]
    by_cases e : i = 0
    · rw [e, h]; rfl
    · rw [decide_eq_false e, Bool.and_false]
def or_bit (L : Int32) (m : Nat) : Prop := (L >>> (nI m &&& 31)) &&& 1 = 1
theorem or_bit_n {L : Int32} {m : Nat} : ¬ or_bit L m ↔ (L >>> (nI m &&& 31)) &&& 1 = 0 := by
  unfold or_bit
  rw [or_b1, or_b0]
  cases bt (L >>> (nI m &&& 31)) 0 <;> simp
theorem or_bit_t {L : Int32} {m : Nat} (hm : m < 32) : or_bit L m ↔ bt L m = true := by
  unfold or_bit
  rw [or_b1, b_sshr m hm L (by omega), if_pos (by omega)]
  exact Iff.rfl
theorem or_sh {a m : Nat} (ha : a < 32) (hm : m < 32) : bt ((1 : Int32) <<< (nI a &&& 31)) m = decide (m = a) := by
  rw [b_shl a ha 1 hm, or_bt1 (m - a) (by omega)]
  by_cases e : m = a
  · rw [decide_eq_true (show a ≤ m by omega), decide_eq_true (show m - a = 0 by omega), decide_eq_true e]; rfl
  · rw [decide_eq_false e]
    by_cases h : a ≤ m
    · rw [decide_eq_false (show ¬ m - a = 0 by omega), Bool.and_false]
    · rw [decide_eq_false h, Bool.false_and]
theorem or_set {L : Int32} {a m : Nat} (ha : a < 32) (hm : m < 32) : or_bit (L ||| ((1 : Int32) <<< (nI a &&& 31))) m ↔ or_bit L m ∨ m = a := by
  rw [or_bit_t hm, or_bit_t hm, b_or, or_sh ha hm, Bool.or_eq_true, decide_eq_true_eq]
theorem or_clr {L : Int32} {a m : Nat} (ha : a < 32) (hm : m < 32) : or_bit (L &&& (((1 : Int32) <<< (nI a &&& 31)) ^^^ (-1))) m ↔ or_bit L m ∧ m ≠ a := by
  rw [or_bit_t hm, or_bit_t hm, b_and, b_xor, or_sh ha hm, b_m1 m hm, Bool.and_eq_true]
  by_cases e : m = a
  · simp [e]
  · simp [e]
theorem or_bit0 {m : Nat} (hm : m < 32) : ¬ or_bit 0 m := by
  rw [or_bit_t hm, b_0]
  exact Bool.false_ne_true
/-- how many below n -/
noncomputable def or_cn (p : Nat → Prop) : Nat → Nat
  | 0 => 0
  | n + 1 => or_cn p n + bs_ci (p n) 1 0
theorem or_cn_t {p : Nat → Prop} {n : Nat} (h : p n) : or_cn p (n + 1) = or_cn p n + 1 := by
  show or_cn p n + bs_ci (p n) 1 0 = _
  rw [bs_ct h]
theorem or_cn_f {p : Nat → Prop} {n : Nat} (h : ¬ p n) : or_cn p (n + 1) = or_cn p n := by
  show or_cn p n + bs_ci (p n) 1 0 = _
  rw [bs_cf h]; rfl
theorem or_cn_le (p : Nat → Prop) : ∀ n, or_cn p n ≤ n := by
  intro n
  induction n with
  | zero => exact Nat.le_refl _
  | succ n ih =>
    by_cases h : p n
    · rw [or_cn_t h]; omega
    · rw [or_cn_f h]; omega
theorem or_cn_mono {p q : Nat → Prop} : ∀ n, (∀ i, i < n → q i → p i) → or_cn q n ≤ or_cn p n := by
  intro n
  induction n with
  | zero => exact fun _ => Nat.le_refl _
  | succ n ih =>
    intro h
    have h1 := ih (fun i hi => h i (by omega))
    by_cases hq : q n
    · rw [or_cn_t hq, or_cn_t (h n (by omega) hq)]; omega
    · rw [or_cn_f hq]
      by_cases hp : p n
      · rw [or_cn_t hp]; omega
      · rw [or_cn_f hp]; exact h1
theorem or_cn_lt {p q : Nat → Prop} {a : Nat} (hpa : p a) (hqa : ¬ q a) : ∀ n, a < n → (∀ i, i < n → q i → p i) → or_cn q n < or_cn p n := by
  intro n
  induction n with
  | zero => intro h; omega
  | succ n ih =>
    intro han h
    by_cases e : a = n
    · subst e
      rw [or_cn_f hqa, or_cn_t hpa]
      have := or_cn_mono a (fun i hi => h i (by omega))
      omega
    · have h1 := ih (by omega) (fun i hi => h i (by omega))
      by_cases hq : q n
      · rw [or_cn_t hq, or_cn_t (h n (by omega) hq)]; omega
      · rw [or_cn_f hq]
        by_cases hp : p n
        · rw [or_cn_t hp]; omega
        · rw [or_cn_f hp]; exact h1
theorem or_cn_pos {p : Nat → Prop} {a n : Nat} (ha : a < n) (h : p a) : 0 < or_cn p n := by
  have h1 := or_cn_lt (q := fun _ => False) h (fun z => z) n ha (fun i _ z => z.elim)
  omega
theorem or_cn_c {p q : Nat → Prop} (n : Nat) (h : ∀ i, i < n → (p i ↔ q i)) : or_cn p n = or_cn q n :=
  Nat.le_antisymm (or_cn_mono n (fun i hi => (h i hi).mp)) (or_cn_mono n (fun i hi => (h i hi).mpr))
/-- the bit set of those below n with P -/
noncomputable def or_ap (P : Nat → Prop) : Nat → Int32
  | 0 => 0
  | m + 1 => bs_ci (P m) (or_ap P m ||| ((1 : Int32) <<< (nI m &&& 31))) (or_ap P m)
theorem or_ap_t {P : Nat → Prop} {m : Nat} (h : P m) : or_ap P m ||| ((1 : Int32) <<< (nI m &&& 31)) = or_ap P (m + 1) := (bs_ct h).symm
theorem or_ap_f {P : Nat → Prop} {m : Nat} (h : ¬ P m) : or_ap P m = or_ap P (m + 1) := (bs_cf h).symm
theorem or_ap_b {P : Nat → Prop} : ∀ n, n ≤ 32 → ∀ m, m < 32 → (or_bit (or_ap P n) m ↔ m < n ∧ P m) := by
  intro n
  induction n with
  | zero => exact fun _ m hm => ⟨fun z => absurd z (or_bit0 hm), fun z => absurd z.1 (Nat.not_lt_zero m)⟩
  | succ n ih =>
    intro hn m hm
    have h1 := ih (by omega) m hm
    by_cases h : P n
    · rw [← or_ap_t h, or_set (by omega) hm, h1]
      constructor
      · rintro (z | z)
        · exact ⟨by omega, z.2⟩
        · rw [z]; exact ⟨by omega, h⟩
      · rintro ⟨z1, z2⟩
        by_cases e : m = n
        · exact Or.inr e
        · exact Or.inl ⟨by omega, z2⟩
    · rw [← or_ap_f h, h1]
      constructor
      · rintro ⟨z1, z2⟩
        exact ⟨by omega, z2⟩
      · rintro ⟨z1, z2⟩
        by_cases e : m = n
        · rw [e] at z2; exact absurd z2 h
        · exact ⟨by omega, z2⟩
/-- the method of the set that precedes all others; R: ranks, p: how many parameters -/
def or_good (R : Nat → Nat → Int32) (p : Nat) (L : Int32) (m : Nat) : Prop := or_bit L m ∧ ∀ n, n < 24 → n ≠ m → or_bit L n → ∀ k, k < p → R m k ≤ R n k
noncomputable def or_ld (R : Nat → Nat → Int32) (p : Nat) (L : Int32) : Nat := bs_fi (or_good R p L) 24
noncomputable def or_sq (R : Nat → Nat → Int32) (p : Nat) (L : Int32) : Nat → Int32
  | 0 => L
  | q + 1 => bs_ci (or_ld R p (or_sq R p L q) < 24) (or_sq R p L q &&& (((1 : Int32) <<< (nI (or_ld R p (or_sq R p L q)) &&& 31)) ^^^ (-1))) (or_sq R p L q)
theorem or_sq_t {R : Nat → Nat → Int32} {p q : Nat} {L : Int32} (h : or_ld R p (or_sq R p L q) < 24) : or_sq R p L q &&& (((1 : Int32) <<< (nI (or_ld R p (or_sq R p L q)) &&& 31)) ^^^ (-1)) = or_sq R p L (q + 1) := (bs_ct h).symm
theorem or_sq_f {R : Nat → Nat → Int32} {p q : Nat} {L : Int32} (h : ¬ or_ld R p (or_sq R p L q) < 24) : or_sq R p L q = or_sq R p L (q + 1) := (bs_cf h).symm
theorem or_sq_sub {R : Nat → Nat → Int32} {p : Nat} {L : Int32} : ∀ q m, m < 24 → or_bit (or_sq R p L q) m → or_bit L m := by
  intro q
  induction q with
  | zero => exact fun m _ h => h
  | succ q ih =>
    intro m hm h
    by_cases hl : or_ld R p (or_sq R p L q) < 24
    · rw [← or_sq_t hl, or_clr (by omega) (by omega)] at h
      exact ih m hm h.1
    · rw [← or_sq_f hl] at h
      exact ih m hm h
noncomputable def or_mn (R : Nat → Nat → Int32) (p : Nat) (L : Int32) : Nat := bs_fi (fun q => ¬ or_ld R p (or_sq R p L q) < 24) 24
theorem or_mn_le (R : Nat → Nat → Int32) (p : Nat) (L : Int32) : or_mn R p L ≤ 24 := bs_fi_le _ _
theorem or_mn_lt {R : Nat → Nat → Int32} {p q : Nat} {L : Int32} (h : q < or_mn R p L) : or_ld R p (or_sq R p L q) < 24 := Classical.not_not.mp (bs_fi_lt h)
theorem or_sq_cn {R : Nat → Nat → Int32} {p : Nat} {L : Int32} : ∀ q, q ≤ or_mn R p L → or_cn (or_bit (or_sq R p L q)) 24 + q ≤ 24 := by
  intro q
  induction q with
  | zero =>
    intro _
    have h0 := or_cn_le (or_bit (or_sq R p L 0)) 24
    omega
  | succ q ih =>
    intro hq
    have h1 := ih (by omega)
    have hl := or_mn_lt (q := q) (R := R) (p := p) (L := L) (by omega)
    have hg := bs_fi_p (p := or_good R p (or_sq R p L q)) hl
    have h2 := or_cn_lt (p := or_bit (or_sq R p L q)) (q := or_bit (or_sq R p L (q + 1))) (a := or_ld R p (or_sq R p L q)) hg.1 (by rw [← or_sq_t hl, or_clr (by omega) (by omega)]; exact fun z => z.2 rfl) 24 hl (fun i hi hz => by rw [← or_sq_t hl, or_clr (by omega) (by omega)] at hz; exact hz.1)
    omega
theorem or_mn_no {R : Nat → Nat → Int32} {p : Nat} {L : Int32} : ¬ or_ld R p (or_sq R p L (or_mn R p L)) < 24 := by
  intro h
  have h1 := or_sq_cn (R := R) (p := p) (L := L) (or_mn R p L) (Nat.le_refl _)
  have hg := bs_fi_p (p := or_good R p (or_sq R p L (or_mn R p L))) h
  have h2 := or_cn_pos (n := 24) h hg.1
  have h3 : or_mn R p L < 24 := by omega
  exact bs_fi_p (p := fun q => ¬ or_ld R p (or_sq R p L q) < 24) h3 h
theorem or_sq_st {R : Nat → Nat → Int32} {p : Nat} {L : Int32} : ∀ d, or_sq R p L (or_mn R p L + d) = or_sq R p L (or_mn R p L) := by
  intro d
  induction d with
  | zero => rfl
  | succ d ih =>
    have h := or_mn_no (R := R) (p := p) (L := L)
    rw [← ih] at h
    rw [← ih]
    exact (or_sq_f h).symm
theorem or_sq_ge {R : Nat → Nat → Int32} {p q : Nat} {L : Int32} (h : or_mn R p L ≤ q) : or_sq R p L q = or_sq R p L (or_mn R p L) := by
  have := or_sq_st (R := R) (p := p) (L := L) (q - or_mn R p L)
  rw [Nat.add_sub_cancel' h] at this
  exact this
/-- X's place q of the order -/
noncomputable def or_ox (R : Nat → Nat → Int32) (p : Nat) (L : Int32) : Int32 := bs_ci (or_ld R p L < 24) (nI (or_ld R p L)) (bs_ci (L = 0) (-1) (-2))
theorem or_ox_lt {R : Nat → Nat → Int32} {p q : Nat} {L : Int32} (h : q < or_mn R p L) : or_ox R p (or_sq R p L q) = nI (or_ld R p (or_sq R p L q)) := bs_ct (or_mn_lt h)
theorem or_ox_ge {R : Nat → Nat → Int32} {p q : Nat} {L : Int32} (h : or_mn R p L ≤ q) : or_ox R p (or_sq R p L q) = bs_ci (or_sq R p L (or_mn R p L) = 0) (-1) (-2) := by
  rw [or_sq_ge h]
  exact bs_cf or_mn_no
