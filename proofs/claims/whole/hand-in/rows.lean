section
theorem pk_us {f : Nat → Int32} {k : Nat} {x : Int32} : upd f k x k = x := if_pos rfl
theorem pk_un {f : Nat → Int32} {k j : Nat} {x : Int32} (h : j ≠ k) : upd f k x j = f j := if_neg h
theorem pk_uLs {f : Nat → Int64} {k : Nat} {x : Int64} : vp_updL f k x k = x := if_pos rfl
theorem pk_uLn {f : Nat → Int64} {k j : Nat} {x : Int64} (h : j ≠ k) : vp_updL f k x j = f j := if_neg h
theorem pk_sub {a b : Nat} (h : b ≤ a) : nI a - nI b = nI (a - b) := by
  obtain ⟨c, rfl⟩ : ∃ c, a = c + b := ⟨a - b, by omega⟩
  rw [← nI_add, Int32.add_sub_cancel, Nat.add_sub_cancel]
theorem pk_m1 (n : Nat) : nI (n + 1) + (-1) = nI n := by
  rw [← nI_1, Int32.add_assoc, show (1 : Int32) + (-1) = 0 from rfl, Int32.add_zero]
theorem pk_mul (a b : Nat) : nI a * nI b = nI (a * b) := (Int32.ofNat_mul a b).symm
theorem pk_div {a d : Nat} (ha : a < 2 ^ 31) (h0 : 0 < d) (hd : d < 2 ^ 31) : nI a / nI d = nI (a / d) := by
  apply Int32.toInt_inj.mp
  rw [lg_idiv_nonneg (by rw [nI_toInt ha]; omega) (by rw [nI_toInt hd]; omega), nI_toInt ha, nI_toInt hd, nI_toInt (Nat.lt_of_le_of_lt (Nat.div_le_self a d) ha)]
  first | rfl | exact (Int.natCast_ediv _ _).symm
theorem pk_rem {a d : Nat} (ha : a < 2 ^ 31) (h0 : 0 < d) (hd : d < 2 ^ 31) : nI a - nI a / nI d * nI d = nI (a % d) := by
  rw [pk_div ha h0 hd, pk_mul, pk_sub (Nat.div_mul_le_self a d)]
  exact congrArg nI (by have := Nat.div_add_mod' a d; omega)
theorem pk_sub_toInt {a b : Nat} (ha : a < 2 ^ 30) (hb : b < 2 ^ 30) : (nI a - nI b).toInt = (a : Int) - b := by
  rw [Int32.toInt_sub, nI_toInt (by omega), nI_toInt (by omega)]
  exact Int.bmod_eq_of_le (by omega) (by omega)
theorem pk_sneg {a b : Nat} (hb : b < 2 ^ 30) (h : a < b) : nI a - nI b < 0 := by
  rw [Int32.lt_iff_toInt_lt, pk_sub_toInt (by omega) hb, show (0 : Int32).toInt = 0 from by decide]
  omega
theorem pk_ix (x : Int32) {n : Nat} (hn : n < 2 ^ 31) : x < 0 ∨ nI n ≤ x ∨ ∃ j : Nat, j < n ∧ x = nI j := by
  by_cases h : x < 0
  · exact Or.inl h
  · obtain ⟨j, hj, rfl⟩ := nI_of h
    by_cases h2 : j < n
    · exact Or.inr (Or.inr ⟨j, h2, rfl⟩)
    · exact Or.inr (Or.inl (nI_le (by omega) hj))
theorem pk_le {x y : Int32} {A B : Prop} (a b : Nat) (f : a ≤ b → A) (g : b < a → B) (hx : x = nI a := by rfl) (hy : y = nI b := by rfl) (ha : a < 2 ^ 31 := by omega) (hb : b < 2 ^ 31 := by omega) : (x ≤ y → A) ∧ (¬ x ≤ y → B) := by
  subst hx hy
  rw [nI_leI ha hb]
  exact ⟨f, fun z => g (by omega)⟩
theorem pk_lt {x y : Int32} {A B : Prop} (a b : Nat) (f : a < b → A) (g : b ≤ a → B) (hx : x = nI a := by rfl) (hy : y = nI b := by rfl) (ha : a < 2 ^ 31 := by omega) (hb : b < 2 ^ 31 := by omega) : (x < y → A) ∧ (¬ x < y → B) := by
  subst hx hy
  rw [nI_ltI ha hb]
  exact ⟨f, fun z => g (by omega)⟩
theorem pk_eq {x y : Int32} {A B : Prop} (a b : Nat) (f : a = b → A) (g : a ≠ b → B) (hx : x = nI a := by rfl) (hy : y = nI b := by rfl) (ha : a < 2 ^ 31 := by omega) (hb : b < 2 ^ 31 := by omega) : (x = y → A) ∧ (¬ x = y → B) := by
  subst hx hy
  rw [nI_eq ha hb]
  exact ⟨f, g⟩
theorem pk_in {x : Int32} (n N : Nat) (h : n < N) (hx : x = nI n := by rfl) (hN : N < 2 ^ 31 := by omega) : vp_in x N := by
  subst hx
  exact vp_in_nI h hN
theorem pk_cl {x : Int32} (n : Nat) (hx : x = nI n := by rfl) (h : n < 2 ^ 31 := by omega) : x.toNatClampNeg = n := by
  subst hx
  exact nI_clamp h
theorem pk_tn {n : Nat} (h : n < 2 ^ 32) : (nI n).toBitVec.toNat = n := Nat.mod_eq_of_lt h
theorem pk_and (x : Int32) {m : Int32} (k : Nat) (hm : m.toBitVec.toNat = 2 ^ k - 1) : x &&& m = nI (x.toBitVec.toNat % 2 ^ k) := by
  apply Int32.toBitVec_inj.mp
  apply BitVec.eq_of_toNat_eq
  rw [Int32.toBitVec_and, BitVec.toNat_and, hm, Nat.and_two_pow_sub_one_eq_mod]
  show _ = (BitVec.ofNat 32 _).toNat
  rw [BitVec.toNat_ofNat]
  exact (Nat.mod_eq_of_lt (Nat.lt_of_le_of_lt (Nat.mod_le _ _) x.toBitVec.isLt)).symm
theorem pk_andN {n : Nat} (h : n < 2 ^ 32) {m : Int32} (k : Nat) (hm : m.toBitVec.toNat = 2 ^ k - 1) : nI n &&& m = nI (n % 2 ^ k) := by
  rw [pk_and _ k hm, pk_tn h]
theorem pk_andE (x : Int32) {m : Int32} (k : Nat) (hm : m.toBitVec.toNat = 2 ^ k - 1) : ∃ j : Nat, j < 2 ^ k ∧ x &&& m = nI j := ⟨_, Nat.mod_lt _ (Nat.two_pow_pos k), pk_and x k hm⟩
theorem pk_andIn (x : Int32) {m : Int32} (k : Nat) (hm : m.toBitVec.toNat = 2 ^ k - 1) (hk : k ≤ 30) : vp_in (x &&& m) (2 ^ k) := by
  obtain ⟨j, hj, e⟩ := pk_andE x k hm
  rw [e]
  exact vp_in_nI hj (Nat.lt_of_le_of_lt (Nat.pow_le_pow_right (by decide) hk) (by decide))
theorem pk_shl (a s : Int32) (k : Nat) (hs : (s.toBitVec.smod 32).toNat = k) : (a <<< s).toBitVec.toNat = a.toBitVec.toNat * 2 ^ k % 2 ^ 32 := by
  show (a.toBitVec <<< (s.toBitVec.smod 32).toNat).toNat = _
  rw [hs, BitVec.toNat_shiftLeft, Nat.shiftLeft_eq]
theorem pk_shlN {n : Nat} (s : Int32) (k : Nat) (hs : (s.toBitVec.smod 32).toNat = k) (h : n * 2 ^ k < 2 ^ 32) : nI n <<< s = nI (n * 2 ^ k) := by
  apply Int32.toBitVec_inj.mp
  apply BitVec.eq_of_toNat_eq
  have hn : n < 2 ^ 32 := Nat.lt_of_le_of_lt (Nat.le_mul_of_pos_right n (Nat.two_pow_pos k)) h
  rw [pk_shl _ _ k hs, pk_tn hn, pk_tn h, Nat.mod_eq_of_lt h]
theorem pk_shr (a s : Int32) (k : Nat) (hs : (s.toBitVec.smod 32).toNat = k) : (a >>> s).toInt = a.toInt >>> k := by
  show (a.toBitVec.sshiftRight (s.toBitVec.smod 32).toNat).toInt = _
  rw [hs, BitVec.toInt_sshiftRight]
  rfl
theorem pk_shrN {n : Nat} (h : n < 2 ^ 31) (s : Int32) (k : Nat) (hs : (s.toBitVec.smod 32).toNat = k) : nI n >>> s = nI (n / 2 ^ k) := by
  apply Int32.toInt_inj.mp
  have h2 : n / 2 ^ k ≤ n := Nat.div_le_self _ _
  rw [pk_shr _ _ k hs, nI_toInt h, nI_toInt (by omega), Int.shiftRight_eq_div_pow]
  rfl
theorem pk_ushr (x s : Int32) (k : Nat) (hs : ((s.toUInt32 &&& Int32.toUInt32 31).toBitVec % 32).toNat = k) : (x.toUInt32 >>> (s.toUInt32 &&& Int32.toUInt32 31)).toInt32.toBitVec.toNat = x.toBitVec.toNat / 2 ^ k := by
  have e : (x.toUInt32 >>> (s.toUInt32 &&& Int32.toUInt32 31)).toInt32.toBitVec = x.toBitVec >>> k := by
    rw [← hs]
    exact UInt32.toBitVec_shiftRight _ _
  rw [e, BitVec.toNat_ushiftRight, Nat.shiftRight_eq_div_pow]
theorem pk_ushrN {n : Nat} (hn : n < 2 ^ 32) (s : Int32) (k : Nat) (hs : ((s.toUInt32 &&& Int32.toUInt32 31).toBitVec % 32).toNat = k) : ((nI n).toUInt32 >>> (s.toUInt32 &&& Int32.toUInt32 31)).toInt32 = nI (n / 2 ^ k) := by
  apply Int32.toBitVec_inj.mp
  apply BitVec.eq_of_toNat_eq
  rw [pk_ushr _ s k hs, pk_tn hn, pk_tn (Nat.lt_of_le_of_lt (Nat.div_le_self _ _) hn)]
theorem pk_nb (z : Int32) : narrow .byte (.int z.toInt8.toInt32) = .int z.toInt8.toInt32 := congrArg Value.int (by simp)
theorem pk_ns (z : Int32) : narrow .short (.int z.toInt16.toInt32) = .int z.toInt16.toInt32 := congrArg Value.int (by simp)
theorem pk_fb (r : Int32) : fits .byte (.int r.toInt8.toInt32) = true := by
  have ⟨a, b⟩ := lg_i2b_range r
  have h1 : (-128 : Int32).toInt = -128 := by decide
  have h2 : (127 : Int32).toInt = 127 := by decide
  simp only [fits, Bool.and_eq_true, decide_eq_true_eq, Int32.le_iff_toInt_le, h1, h2]
  omega
theorem pk_fs (r : Int32) : fits .short (.int r.toInt16.toInt32) = true := by
  have ⟨a, b⟩ := lg_i2s_range r
  have h1 : (-32768 : Int32).toInt = -32768 := by decide
  have h2 : (32767 : Int32).toInt = 32767 := by decide
  simp only [fits, Bool.and_eq_true, decide_eq_true_eq, Int32.le_iff_toInt_le, h1, h2]
  omega
theorem pk_charN {q : Nat} (hq : q < 65536) : narrow .char (.int (nI q)) = .int (nI q) ∧ fits .char (.int (nI q)) = true := by
  constructor
  · have e : (nI q).toUInt32.toUInt16.toUInt32.toInt32 = nI q := by
      apply Int32.toBitVec_inj.mp
      apply BitVec.eq_of_toNat_eq
      show (nI q).toUInt32.toUInt16.toUInt32.toNat = q % 2 ^ 32
      rw [UInt16.toNat_toUInt32, UInt32.toNat_toUInt16, show (nI q).toUInt32.toNat = q % 2 ^ 32 from rfl]
      omega
    exact congrArg Value.int e
  · have a : (0 : Int32) ≤ nI q := nI_pos' (by omega)
    have b : nI q ≤ 65535 := nI_le (b := 65535) (by omega) (by decide)
    show (decide ((0 : Int32) ≤ nI q) && decide (nI q ≤ 65535)) = true
    rw [decide_eq_true a, decide_eq_true b]
    rfl
theorem pk_char (x : Int32) : (x.toUInt32 % 65536).toInt32 = nI (x.toBitVec.toNat % 65536) := by
  apply Int32.toBitVec_inj.mp
  apply BitVec.eq_of_toNat_eq
  rw [pk_tn (by omega)]
  show (x.toUInt32 % 65536).toNat = _
  rw [UInt32.toNat_mod]
  rfl
theorem pk_nc (x : Int32) : narrow .char (.int (x.toUInt32 % 65536).toInt32) = .int (x.toUInt32 % 65536).toInt32 := by
  rw [pk_char]
  exact (pk_charN (Nat.mod_lt _ (by decide))).1
theorem pk_fc (x : Int32) : fits .char (.int (x.toUInt32 % 65536).toInt32) = true := by
  rw [pk_char]
  exact (pk_charN (Nat.mod_lt _ (by decide))).2
theorem pk_vb (z : Int32) : vp_nar .byte z.toInt8.toInt32 = z.toInt8.toInt32 := by rw [vp_nar_byte]; simp
theorem pk_vs (z : Int32) : vp_nar .short z.toInt16.toInt32 = z.toInt16.toInt32 := by rw [vp_nar_short]; simp
theorem pk_vc (z : Int32) : vp_nar .char (z.toUInt32 % 65536).toInt32 = (z.toUInt32 % 65536).toInt32 := Value.int.inj (pk_nc z)
theorem pk_lT {n : Nat} (h : n < 2 ^ 63) : (lN n).toInt = (n : Int) := lg_ofNat_toInt h
theorem pk_lLT {a b : Nat} (ha : a < 2 ^ 63) (hb : b < 2 ^ 63) : lN a < lN b ↔ a < b := by
  rw [Int64.lt_iff_toInt_lt, pk_lT ha, pk_lT hb]; omega
theorem pk_lLE {a b : Nat} (ha : a < 2 ^ 63) (hb : b < 2 ^ 63) : lN a ≤ lN b ↔ a ≤ b := by
  rw [Int64.le_iff_toInt_le, pk_lT ha, pk_lT hb]; omega
theorem pk_lEQ {a b : Nat} (ha : a < 2 ^ 63) (hb : b < 2 ^ 63) : lN a = lN b ↔ a = b := by
  rw [← Int64.toInt_inj, pk_lT ha, pk_lT hb]; omega
theorem pk_lOf {x : Int64} (h : ¬ x < 0) : ∃ k : Nat, k < 2 ^ 63 ∧ x = lN k := by
  rw [Int64.lt_iff_toInt_lt] at h
  have h0 : (0 : Int64).toInt = 0 := by decide
  have hx := Int64.toInt_lt x
  refine ⟨x.toInt.toNat, by omega, Int64.toInt_inj.mp ?_⟩
  rw [pk_lT (by omega)]
  omega
theorem pk_lDiv {a b : Nat} (ha : a < 2 ^ 63) (h0 : 0 < b) (hb : b < 2 ^ 63) : lN a / lN b = lN (a / b) := by
  apply Int64.toInt_inj.mp
  rw [lg_ldiv_nonneg (by rw [pk_lT ha]; omega) (by rw [pk_lT hb]; omega), pk_lT ha, pk_lT hb, pk_lT (Nat.lt_of_le_of_lt (Nat.div_le_self a b) ha)]
  rfl
theorem pk_lRem {a b : Nat} (ha : a < 2 ^ 63) (h0 : 0 < b) (hb : b < 2 ^ 63) : lN a - lN a / lN b * lN b = lN (a % b) := by
  rw [pk_lDiv ha h0 hb, lN_mul, lN_sub (Nat.div_mul_le_self a b)]
  exact congrArg lN (by have := Nat.div_add_mod' a b; omega)
theorem pk_loop {σ : Type} (W : Nat → Nat → σ → Prop) (I : Nat → σ → Prop) (e i0 : Nat) (s : σ) (hi : i0 ≤ e) (h0 : I i0 s) (hx : ∀ n s, I e s → W (n + 1) e s)
    (hs : ∀ n i s, i < e → I i s → (∀ s', I (i + 1) s' → W n (i + 1) s') → W (n + 1) i s) : ∃ n, W n i0 s :=
  ⟨e + 1, loop_i W I e hx hs (e + 1) i0 s hi (by omega) h0⟩
theorem pk_loopD {σ : Type} (W : Nat → Nat → σ → Prop) (I : Nat → σ → Prop) (hx : ∀ n s, I 0 s → W (n + 1) 0 s)
    (hs : ∀ n i s, I (i + 1) s → (∀ s', I i s' → W n i s') → W (n + 1) (i + 1) s) : ∀ (e : Nat) (s : σ), I e s → W (e + 1) e s := by
  intro e
  induction e with
  | zero => exact fun s h => hx 0 s h
  | succ e ih => exact fun s h => hs (e + 1) e s h (fun s' h' => ih s' h')
theorem lp1 {A1 : Type} (W : Nat → A1 → Prop) (I : A1 → Prop) (μ : A1 → Nat) (hs : ∀ (n : Nat) (a1 : A1), I a1 → (∀ (b1 : A1), I b1 → μ b1 < μ a1 → W n b1) → W (n + 1) a1) (a1 : A1) (h : I a1) : ∃ n, W n a1 :=
  loop_m (σ := A1) (fun n s => W n s) (fun s => I s) (fun s => μ s) (fun n s hI hk => hs n s hI (fun b1 h9 hm => hk b1 h9 hm)) a1 h
theorem lp2 {A1 A2 : Type} (W : Nat → A1 → A2 → Prop) (I : A1 → A2 → Prop) (μ : A1 → A2 → Nat) (hs : ∀ (n : Nat) (a1 : A1) (a2 : A2), I a1 a2 → (∀ (b1 : A1) (b2 : A2), I b1 b2 → μ b1 b2 < μ a1 a2 → W n b1 b2) → W (n + 1) a1 a2) (a1 : A1) (a2 : A2) (h : I a1 a2) : ∃ n, W n a1 a2 :=
  loop_m (σ := A1 × A2) (fun n s => W n s.1 s.2) (fun s => I s.1 s.2) (fun s => μ s.1 s.2) (fun n s hI hk => hs n s.1 s.2 hI (fun b1 b2 h9 hm => hk (b1, b2) h9 hm)) (a1, a2) h
theorem lp3 {A1 A2 A3 : Type} (W : Nat → A1 → A2 → A3 → Prop) (I : A1 → A2 → A3 → Prop) (μ : A1 → A2 → A3 → Nat) (hs : ∀ (n : Nat) (a1 : A1) (a2 : A2) (a3 : A3), I a1 a2 a3 → (∀ (b1 : A1) (b2 : A2) (b3 : A3), I b1 b2 b3 → μ b1 b2 b3 < μ a1 a2 a3 → W n b1 b2 b3) → W (n + 1) a1 a2 a3) (a1 : A1) (a2 : A2) (a3 : A3) (h : I a1 a2 a3) : ∃ n, W n a1 a2 a3 :=
  loop_m (σ := A1 × A2 × A3) (fun n s => W n s.1 s.2.1 s.2.2) (fun s => I s.1 s.2.1 s.2.2) (fun s => μ s.1 s.2.1 s.2.2) (fun n s hI hk => hs n s.1 s.2.1 s.2.2 hI (fun b1 b2 b3 h9 hm => hk (b1, b2, b3) h9 hm)) (a1, a2, a3) h
/-! own base rows -/
theorem bs_b8 {n : Nat} (h : n < 128) : (nI n).toInt8.toInt32 = nI n :=
  lg_i2b_small (by rw [nI_toInt (by omega)]; omega) (by rw [nI_toInt (by omega)]; omega)
theorem bs_vb {n : Nat} (h : n < 128) : vp_nar .byte (nI n) = nI n := by rw [vp_nar_byte, bs_b8 h]
theorem bs_vb8 {n : Nat} (h : n < 128) : vp_nar .byte (nI n).toInt8.toInt32 = nI n := by rw [bs_b8 h, bs_vb h]
theorem bs_vm1 : vp_nar .byte (-1) = -1 := by rw [vp_nar_byte]; decide
theorem bs_v0 : vp_nar .byte 0 = 0 := by rw [vp_nar_byte]; decide
theorem bs_v1 : vp_nar .byte 1 = 1 := by rw [vp_nar_byte]; decide
theorem bs_v2 : vp_nar .byte 2 = 2 := by rw [vp_nar_byte]; decide
theorem bs_z0 : vp_nar .boolean 0 = 0 := by decide
theorem bs_z1 : vp_nar .boolean 1 = 1 := by decide
theorem bs_z {x : Int32} (h : x = 0 ∨ x = 1) : vp_nar .boolean x = x := by
  rcases h with rfl | rfl
  · exact bs_z0
  · exact bs_z1
theorem bs_zn {x : Int32} (h : x = 0 ∨ x = 1) : narrow .boolean (.int x) = .int x := by
  rcases h with rfl | rfl
  · rfl
  · rfl
noncomputable def bs_ci {α : Type} (p : Prop) (a b : α) : α := @ite α p (Classical.propDecidable p) a b
theorem bs_ct {α : Type} {p : Prop} {a b : α} (h : p) : bs_ci p a b = a := if_pos h
theorem bs_cf {α : Type} {p : Prop} {a b : α} (h : ¬ p) : bs_ci p a b = b := if_neg h
noncomputable def bs_fi (p : Nat → Prop) : Nat → Nat
  | 0 => 0
  | n + 1 => bs_ci (bs_fi p n < n) (bs_fi p n) (bs_ci (p n) n (n + 1))
theorem bs_fi_sp (p : Nat → Prop) : ∀ n, bs_fi p n ≤ n ∧ (∀ j, j < bs_fi p n → ¬ p j) ∧ (bs_fi p n < n → p (bs_fi p n)) := by
  intro n
  induction n with
  | zero => exact ⟨Nat.le_refl _, fun j h => absurd h (Nat.not_lt_zero j), fun h => absurd h (Nat.not_lt_zero _)⟩
  | succ n ih =>
    obtain ⟨h1, h2, h3⟩ := ih
    by_cases c : bs_fi p n < n
    · have e : bs_fi p (n + 1) = bs_fi p n := bs_ct c
      rw [e]
      exact ⟨by omega, h2, fun _ => h3 c⟩
    · have en : bs_fi p n = n := by omega
      rw [en] at h2
      by_cases d : p n
      · have e : bs_fi p (n + 1) = n := by
          show bs_ci _ _ _ = _
          rw [bs_cf c, bs_ct d]
        rw [e]
        exact ⟨by omega, h2, fun _ => d⟩
      · have e : bs_fi p (n + 1) = n + 1 := by
          show bs_ci _ _ _ = _
          rw [bs_cf c, bs_cf d]
        rw [e]
        refine ⟨Nat.le_refl _, fun j hj => ?_, fun h => absurd h (Nat.lt_irrefl _)⟩
        by_cases ej : j = n
        · rw [ej]; exact d
        · exact h2 j (by omega)
theorem bs_fi_le (p : Nat → Prop) (n : Nat) : bs_fi p n ≤ n := (bs_fi_sp p n).1
theorem bs_fi_lt {p : Nat → Prop} {n j : Nat} (h : j < bs_fi p n) : ¬ p j := (bs_fi_sp p n).2.1 j h
theorem bs_fi_p {p : Nat → Prop} {n : Nat} (h : bs_fi p n < n) : p (bs_fi p n) := (bs_fi_sp p n).2.2 h
theorem bs_fi_at {p : Nat → Prop} {n i : Nat} (hi : i < n) (hp : p i) (hj : ∀ j, j < i → ¬ p j) : bs_fi p n = i := by
  have h1 := bs_fi_le p n
  by_cases a : bs_fi p n < i
  · exact absurd (bs_fi_p (by omega)) (hj _ a)
  · by_cases b : i < bs_fi p n
    · exact absurd hp (bs_fi_lt b)
    · omega
theorem bs_fi_no {p : Nat → Prop} {n : Nat} (hj : ∀ j, j < n → ¬ p j) : bs_fi p n = n := by
  have h1 := bs_fi_le p n
  by_cases a : bs_fi p n < n
  · exact absurd (bs_fi_p a) (hj _ a)
  · omega
theorem bs_fi_c {p q : Nat → Prop} : ∀ {n : Nat}, (∀ j, j < n → (p j ↔ q j)) → bs_fi p n = bs_fi q n := by
  intro n h
  by_cases a : bs_fi p n < n
  · exact (bs_fi_at a ((h _ a).mp (bs_fi_p a)) (fun j hj hq => bs_fi_lt hj ((h j (by omega)).mpr hq))).symm
  · have e : bs_fi p n = n := by have := bs_fi_le p n; omega
    rw [e]
    exact (bs_fi_no (fun j hj hq => bs_fi_lt (by rw [e]; exact hj) ((h j hj).mpr hq))).symm
/-- the searched index as an answer: -1 if there is none -/
noncomputable def bs_sr (p : Nat → Prop) (n : Nat) : Int32 := bs_ci (bs_fi p n < n) (nI (bs_fi p n)) (-1)
theorem bs_sr_at {p : Nat → Prop} {n i : Nat} (hi : i < n) (hp : p i) (hj : ∀ j, j < i → ¬ p j) : bs_sr p n = nI i := by
  have e := bs_fi_at hi hp hj
  unfold bs_sr
  rw [e, bs_ct hi]
theorem bs_sr_no {p : Nat → Prop} {n : Nat} (hj : ∀ j, j < n → ¬ p j) : bs_sr p n = -1 := by
  have e := bs_fi_no hj
  unfold bs_sr
  rw [e, bs_cf (Nat.lt_irrefl _)]
theorem bs_sr_c {p : Nat → Prop} {n : Nat} : (∃ i, i < n ∧ p i ∧ (∀ j, j < i → ¬ p j) ∧ bs_sr p n = nI i) ∨ ((∀ j, j < n → ¬ p j) ∧ bs_sr p n = -1) := by
  by_cases a : bs_fi p n < n
  · exact Or.inl ⟨_, a, bs_fi_p a, fun j hj => bs_fi_lt hj, bs_ct a⟩
  · have e : bs_fi p n = n := by have := bs_fi_le p n; omega
    exact Or.inr ⟨fun j hj => bs_fi_lt (by rw [e]; exact hj), bs_cf a⟩
theorem bs_ix {K : Int32} (q c k : Nat) (hK : K = nI q := by rfl) : K * nI c + nI k = nI (q * c + k) := by
  subst hK; rw [pk_mul, nI_add]
theorem bs_xi {K : Int32} (q c k : Nat) (hK : K = nI q := by rfl) : nI c * K + nI k = nI (q * c + k) := by
  subst hK; rw [pk_mul, nI_add, Nat.mul_comm]
theorem bs_ad {K : Int32} (q k : Nat) (hK : K = nI q := by rfl) : K + nI k = nI (q + k) := by
  subst hK; rw [nI_add]
theorem bs_ml {K : Int32} (q c : Nat) (hK : K = nI q := by rfl) : K * nI c = nI (q * c) := by
  subst hK; rw [pk_mul]
theorem bs_lm {K : Int32} (q c : Nat) (hK : K = nI q := by rfl) : nI c * K = nI (q * c) := by
  subst hK; rw [pk_mul, Nat.mul_comm]
theorem bs_n1 {n : Nat} (h : n < 2 ^ 31) : ¬ nI n = -1 := by
  intro e
  have h1 := congrArg Int32.toInt e
  rw [nI_toInt h, show (-1 : Int32).toInt = -1 from by decide] at h1
  omega
theorem bs_n2 {n : Nat} (h : n < 2 ^ 31) : ¬ nI n = -2 := by
  intro e
  have h1 := congrArg Int32.toInt e
  rw [nI_toInt h, show (-2 : Int32).toInt = -2 from by decide] at h1
  omega
theorem bs_inj {a b : Nat} (ha : a < 2 ^ 31) (hb : b < 2 ^ 31) (h : nI a = nI b) : a = b := (nI_eq ha hb).mp h
theorem bs_ge0 {n : Nat} (h : n < 2 ^ 31) : (0 : Int32) ≤ nI n := nI_pos' h
theorem bs_clk {n : Nat} (h : n < 2 ^ 31) : (nI n).toNatClampNeg = n := nI_clamp h
/-- a class or the like as an argument: outside below, outside above, or a number -/
theorem bs_arg (x : Int32) {n : Nat} (hn : n < 2 ^ 31) : x < 0 ∨ (¬ x < 0 ∧ nI n ≤ x) ∨ ∃ j : Nat, j < n ∧ x = nI j := by
  by_cases h : x < 0
  · exact Or.inl h
  · rcases pk_ix x hn with h1 | h1 | h1
    · exact absurd h1 h
    · exact Or.inr (Or.inl ⟨h, h1⟩)
    · exact Or.inr (Or.inr h1)
theorem bs_l64 {x : Int32} : (x.toInt64 < 0 ↔ x < 0) := by
  rw [Int64.lt_iff_toInt_lt, Int32.lt_iff_toInt_lt, Int32.toInt_toInt64]
  rfl
theorem bs_lt64 {x y : Int32} : (x.toInt64 < y.toInt64 ↔ x < y) := by
  rw [Int64.lt_iff_toInt_lt, Int32.lt_iff_toInt_lt, Int32.toInt_toInt64, Int32.toInt_toInt64]
theorem bs_one (n : Nat) : nI n - 1 = nI (n - 1) ∨ n = 0 := by
  cases n with
  | zero => exact Or.inr rfl
  | succ n => exact Or.inl (nI_pred n)
theorem bs_m1 {n : Nat} (h : 0 < n) : nI n - 1 = nI (n - 1) := by
  rcases bs_one n with h1 | h1
  · exact h1
  · omega
theorem bs_ar2 (p : Int32) {n : Nat} (hn : n < 2 ^ 31) : (p < 0 ∨ (¬ p < 0 ∧ nI n ≤ p)) ∨ ∃ c, c < n ∧ p = nI c := by
  rcases bs_arg p hn with h | h | h
  · exact Or.inl (Or.inl h)
  · exact Or.inl (Or.inr h)
  · exact Or.inr h
end
section
/-! the relation: nearly all that both sides keep is THE SAME; what differs: class slots, object slots, specialisers -/
def rl_int (v : Int64) : Prop := v = v.toInt32.toInt64
def rl_val (no : Nat) (v : Int64) : Prop := rl_int v ∨ ∃ k, k < no ∧ v = lN (4294967296 + k)
/-- the lines of the nc classes -/
def rl_cls (nc : Nat) (LC LL : Nat → Int32) : Prop := 2 ≤ nc ∧ nc ≤ 16 ∧ ∀ c, c < nc → ∃ l, l ≤ 16 ∧ LL c = nI l ∧ ∀ k, k < l → ∃ e, e < nc ∧ LC (16 * c + k) = nI e
/-- the draft of superclasses -/
def rl_sup (nc ns : Nat) (SD : Nat → Int32) : Prop := ns ≤ 3 ∧ ∀ i, i < ns → ∃ c, c < nc ∧ SD i = nI c
/-- the slots of classes; X keeps the draft as row nc -/
def rl_slt (nc : Nat) (CH CS HA IN DH DI : Nat → Int32) : Prop := (∀ j, CH j = 0 ∨ CH j = 1) ∧ (∀ j, j < 4 * nc → HA j = CH j ∧ (CH j = 1 → IN j = CS j)) ∧ (∀ n, n < 4 → DH n = CH (4 * nc + n) ∧ (CH (4 * nc + n) = 1 → DI n = CS (4 * nc + n))) ∧ (∀ j, 4 * nc + 4 ≤ j → CH j = 0)
/-- the objects -/
def rl_obj (nc no : Nat) (OC OH : Nat → Int32) (OS SL : Nat → Int64) : Prop := no ≤ 20 ∧ (∀ k, k < no → ∃ c, c < nc ∧ OC k = nI c) ∧ ∀ j, j < 4 * no → (OH j = 0 ∧ SL j = -9223372036854775808) ∨ (OH j = 1 ∧ SL j = OS j ∧ rl_val no (OS j))
def rl_par (PC : Nat → Int32) : Prop := ∀ g, g < 5 → ∃ p, 1 ≤ p ∧ p ≤ 3 ∧ PC g = nI p
def rl_gen (MG : Nat → Int32) : Prop := ∀ m, m < 24 → MG m = -1 ∨ ∃ g, g < 5 ∧ MG m = nI g
/-- a token as the draft takes it -/
def rl_tk (nc : Nat) (k v : Int32) : Prop := ∃ q, q ≤ 12 ∧ k = nI q ∧ (q = 1 → ∃ a, a < 3 ∧ v = nI a) ∧ (q = 3 → ∃ a, a < 5 ∧ v = nI a) ∧ (q = 4 ∨ q = 5 → ∃ a, a < 4 ∧ v = nI a) ∧ (q = 11 ∨ q = 12 → ∃ a, a < nc ∧ v = nI a)
def rl_tok (nc : Nat) (TK TV TC : Nat → Int32) : Prop := ∀ m, m < 25 → ∃ t, t ≤ 16 ∧ TC m = nI t ∧ ∀ i, i < t → rl_tk nc (TK (16 * m + i)) (TV (16 * m + i))
/-- how many expressions a token wants behind it -/
def rl_ar (PC : Nat → Int32) (k v : Int32) : Nat := if k = 3 then (PC v.toNatClampNeg).toNatClampNeg else if k = 4 then 1 else if k = 11 then 1 else if k = 9 then 3 else if k < 5 then 0 else if k = 12 then 0 else 2
/-- d tokens from pc on are just k expressions -/
def rl_pn (A : Nat → Nat) : Nat → Nat → Nat → Prop
  | 0 => fun _ k => k = 0
  | d + 1 => fun pc k => ∃ k', k = k' + 1 ∧ rl_pn A d (pc + 1) (k' + A pc)
def rl_am (PC TK TV : Nat → Int32) (m : Nat) : Nat → Nat := fun i => rl_ar PC (TK (16 * m + i)) (TV (16 * m + i))
/-- the bodies of the methods that there are -/
def rl_bod (PC MG TK TV TC : Nat → Int32) : Prop := ∀ m g p t, m < 24 → g < 5 → p ≤ 3 → t ≤ 16 → MG m = nI g → PC g = nI p → TC m = nI t → (∀ i, i < t → TK (16 * m + i) = 1 → ∃ a, a < p ∧ TV (16 * m + i) = nI a) ∧ rl_pn (rl_am PC TK TV m) t 0 1
/-- a specialiser: X's long, Y's flag and long -/
def rl_sp (nc no : Nat) (sp : Int64) (si : Int32) (sg : Int64) : Prop := (si = 0 ∧ ∃ c, c < nc ∧ sg = lN c ∧ sp = lN (8589934592 + c)) ∨ (si = 1 ∧ sp = sg ∧ rl_val no sg)
def rl_spc (nc no nd : Nat) (MG PC : Nat → Int32) (SP : Nat → Int64) (SI : Nat → Int32) (SG : Nat → Int64) : Prop := nd ≤ 3 ∧ (∀ k, k < nd → rl_sp nc no (SP (72 + k)) (SI (72 + k)) (SG (72 + k))) ∧ ∀ m g p, m < 24 → g < 5 → p ≤ 3 → MG m = nI g → PC g = nI p → ∀ k, k < p → rl_sp nc no (SP (3 * m + k)) (SI (3 * m + k)) (SG (3 * m + k))
/-- no two methods of a generic have all specialisers the same -/
def rl_unq (MG PC : Nat → Int32) (SP : Nat → Int64) : Prop := ∀ m n g p, m < 24 → n < 24 → g < 5 → p ≤ 3 → MG m = nI g → MG n = nI g → PC g = nI p → (∀ k, k < p → SP (3 * m + k) = SP (3 * n + k)) → m = n
def rl_rel (nc no ns nd : Nat) (x_classCount : Int32) (x_superCount : Int32) (x_objectCount : Int32) (x_draftSpecialCount : Int32) (x_state : Int32) (x_stepCount : Int32) (x_latestValue : Int64) (x_enterGeneric : Int32) (x_enterPlace : Int32) (x_frameCount : Int32) (x_operatorCount : Int32) (x_valueCount : Int32) (x_lineClass : Nat → Int32) (x_lineLength : Nat → Int32) (x_isSealed : Nat → Int32) (x_classHasSlot : Nat → Int32) (x_classSlot : Nat → Int32) (x_superDraft : Nat → Int32) (x_objectClass : Nat → Int32) (x_objectHasSlot : Nat → Int32) (x_objectSlot : Nat → Int64) (x_parameterCount : Nat → Int32) (x_methodGeneric : Nat → Int32) (x_specialiser : Nat → Int64) (x_tokenKind : Nat → Int32) (x_tokenValue : Nat → Int32) (x_tokenCount : Nat → Int32) (x_argument : Nat → Int64) (x_rank : Nat → Int32) (x_orderPlace : Nat → Int32) (x_frameMethod : Nat → Int32) (x_framePlace : Nat → Int32) (x_frameToken : Nat → Int32) (x_frameOperators : Nat → Int32) (x_frameArgument : Nat → Int64) (x_operatorKind : Nat → Int32) (x_operatorValue : Nat → Int32) (x_operatorLeft : Nat → Int32) (x_workedOut : Nat → Int64) (y_classes : Int32) (y_supers : Int32) (y_objects : Int32) (y_specials : Int32) (y_depth : Int32) (y_ops : Int32) (y_held : Int32) (y_fault : Int32) (y_steps : Int32) (y_shownSteps : Int32) (y_result : Int64) (y_line : Nat → Int32) (y_lineLength : Nat → Int32) (y_has : Nat → Int32) (y_sealed : Nat → Int32) (y_initial : Nat → Int32) (y_drafted : Nat → Int32) (y_draftHas : Nat → Int32) (y_draftInitial : Nat → Int32) (y_lists : Nat → Int32) (y_listLength : Nat → Int32) (y_gone : Nat → Int32) (y_classOfObject : Nat → Int32) (y_slots : Nat → Int64) (y_parameters : Nat → Int32) (y_generic : Nat → Int32) (y_single : Nat → Int32) (y_special : Nat → Int64) (y_kind : Nat → Int32) (y_tokens : Nat → Int32) (y_with : Nat → Int32) (y_methodAt : Nat → Int32) (y_pc : Nat → Int32) (y_chosen : Nat → Int32) (y_many : Nat → Int32) (y_reached : Nat → Int32) (y_opsAt : Nat → Int32) (y_broken : Nat → Int32) (y_arguments : Nat → Int64) (y_operands : Nat → Int64) (y_operator : Nat → Int32) (y_got : Nat → Int32) : Prop :=
  x_classCount = nI nc ∧ y_classes = nI nc ∧ x_superCount = nI ns ∧ y_supers = nI ns ∧ x_objectCount = nI no ∧ y_objects = nI no ∧ x_draftSpecialCount = nI nd ∧ y_specials = nI nd ∧
  x_stepCount = y_shownSteps ∧ x_latestValue = y_result ∧ x_lineClass = y_line ∧ x_lineLength = y_lineLength ∧ x_isSealed = y_sealed ∧ x_superDraft = y_drafted ∧ x_objectClass = y_classOfObject ∧
  x_parameterCount = y_parameters ∧ x_methodGeneric = y_generic ∧ x_tokenKind = y_kind ∧ x_tokenValue = y_with ∧ x_tokenCount = y_tokens ∧
  rl_cls nc x_lineClass x_lineLength ∧ rl_sup nc ns x_superDraft ∧ rl_slt nc x_classHasSlot x_classSlot y_has y_initial y_draftHas y_draftInitial ∧ rl_obj nc no x_objectClass x_objectHasSlot x_objectSlot y_slots ∧
  rl_par x_parameterCount ∧ rl_gen x_methodGeneric ∧ rl_tok nc x_tokenKind x_tokenValue x_tokenCount ∧ rl_bod x_parameterCount x_methodGeneric x_tokenKind x_tokenValue x_tokenCount ∧
  rl_spc nc no nd x_methodGeneric x_parameterCount x_specialiser y_single y_special ∧ rl_unq x_methodGeneric x_parameterCount x_specialiser
def i_Rel (_ : Nat) (u : SX) (v : SY) : Prop := match u, v with
  | (x_classCount, x_superCount, x_objectCount, x_draftSpecialCount, x_state, x_stepCount, x_latestValue, x_enterGeneric, x_enterPlace, x_frameCount, x_operatorCount, x_valueCount, x_lineClass, x_lineLength, x_isSealed, x_classHasSlot, x_classSlot, x_superDraft, x_objectClass, x_objectHasSlot, x_objectSlot, x_parameterCount, x_methodGeneric, x_specialiser, x_tokenKind, x_tokenValue, x_tokenCount, x_argument, x_rank, x_orderPlace, x_frameMethod, x_framePlace, x_frameToken, x_frameOperators, x_frameArgument, x_operatorKind, x_operatorValue, x_operatorLeft, x_workedOut), (y_classes, y_supers, y_objects, y_specials, y_depth, y_ops, y_held, y_fault, y_steps, y_shownSteps, y_result, y_line, y_lineLength, y_has, y_sealed, y_initial, y_drafted, y_draftHas, y_draftInitial, y_lists, y_listLength, y_gone, y_classOfObject, y_slots, y_parameters, y_generic, y_single, y_special, y_kind, y_tokens, y_with, y_methodAt, y_pc, y_chosen, y_many, y_reached, y_opsAt, y_broken, y_arguments, y_operands, y_operator, y_got) => ∃ nc no ns nd : Nat, rl_rel nc no ns nd x_classCount x_superCount x_objectCount x_draftSpecialCount x_state x_stepCount x_latestValue x_enterGeneric x_enterPlace x_frameCount x_operatorCount x_valueCount x_lineClass x_lineLength x_isSealed x_classHasSlot x_classSlot x_superDraft x_objectClass x_objectHasSlot x_objectSlot x_parameterCount x_methodGeneric x_specialiser x_tokenKind x_tokenValue x_tokenCount x_argument x_rank x_orderPlace x_frameMethod x_framePlace x_frameToken x_frameOperators x_frameArgument x_operatorKind x_operatorValue x_operatorLeft x_workedOut y_classes y_supers y_objects y_specials y_depth y_ops y_held y_fault y_steps y_shownSteps y_result y_line y_lineLength y_has y_sealed y_initial y_drafted y_draftHas y_draftInitial y_lists y_listLength y_gone y_classOfObject y_slots y_parameters y_generic y_single y_special y_kind y_tokens y_with y_methodAt y_pc y_chosen y_many y_reached y_opsAt y_broken y_arguments y_operands y_operator y_got
theorem i_up {k : Nat} {u : SX} {v : SY} (h : i_Rel k u v) : i_Rel (k + 9) u v := h
end
section
section
variable {x_classCount : Int32} {x_superCount : Int32} {x_objectCount : Int32} {x_draftSpecialCount : Int32} {x_state : Int32} {x_stepCount : Int32} {x_latestValue : Int64} {x_enterGeneric : Int32} {x_enterPlace : Int32} {x_frameCount : Int32} {x_operatorCount : Int32} {x_valueCount : Int32} {x_lineClass : Nat → Int32} {x_lineLength : Nat → Int32} {x_isSealed : Nat → Int32} {x_classHasSlot : Nat → Int32} {x_classSlot : Nat → Int32} {x_superDraft : Nat → Int32} {x_objectClass : Nat → Int32} {x_objectHasSlot : Nat → Int32} {x_objectSlot : Nat → Int64} {x_parameterCount : Nat → Int32} {x_methodGeneric : Nat → Int32} {x_specialiser : Nat → Int64} {x_tokenKind : Nat → Int32} {x_tokenValue : Nat → Int32} {x_tokenCount : Nat → Int32} {x_argument : Nat → Int64} {x_rank : Nat → Int32} {x_orderPlace : Nat → Int32} {x_frameMethod : Nat → Int32} {x_framePlace : Nat → Int32} {x_frameToken : Nat → Int32} {x_frameOperators : Nat → Int32} {x_frameArgument : Nat → Int64} {x_operatorKind : Nat → Int32} {x_operatorValue : Nat → Int32} {x_operatorLeft : Nat → Int32} {x_workedOut : Nat → Int64} {y_classes : Int32} {y_supers : Int32} {y_objects : Int32} {y_specials : Int32} {y_depth : Int32} {y_ops : Int32} {y_held : Int32} {y_fault : Int32} {y_steps : Int32} {y_shownSteps : Int32} {y_result : Int64} {y_line : Nat → Int32} {y_lineLength : Nat → Int32} {y_has : Nat → Int32} {y_sealed : Nat → Int32} {y_initial : Nat → Int32} {y_drafted : Nat → Int32} {y_draftHas : Nat → Int32} {y_draftInitial : Nat → Int32} {y_lists : Nat → Int32} {y_listLength : Nat → Int32} {y_gone : Nat → Int32} {y_classOfObject : Nat → Int32} {y_slots : Nat → Int64} {y_parameters : Nat → Int32} {y_generic : Nat → Int32} {y_single : Nat → Int32} {y_special : Nat → Int64} {y_kind : Nat → Int32} {y_tokens : Nat → Int32} {y_with : Nat → Int32} {y_methodAt : Nat → Int32} {y_pc : Nat → Int32} {y_chosen : Nat → Int32} {y_many : Nat → Int32} {y_reached : Nat → Int32} {y_opsAt : Nat → Int32} {y_broken : Nat → Int32} {y_arguments : Nat → Int64} {y_operands : Nat → Int64} {y_operator : Nat → Int32} {y_got : Nat → Int32}
theorem mx_isClass_t {post : Int32 → Prop} {c nc : Nat} (h : c < nc) (hn : nc ≤ 16) (hp : post 1) : wpX_isClass post (nI nc, x_superCount, x_objectCount, x_draftSpecialCount, x_state, x_stepCount, x_latestValue, x_enterGeneric, x_enterPlace, x_frameCount, x_operatorCount, x_valueCount, x_lineClass, x_lineLength, x_isSealed, x_classHasSlot, x_classSlot, x_superDraft, x_objectClass, x_objectHasSlot, x_objectSlot, x_parameterCount, x_methodGeneric, x_specialiser, x_tokenKind, x_tokenValue, x_tokenCount, x_argument, x_rank, x_orderPlace, x_frameMethod, x_framePlace, x_frameToken, x_frameOperators, x_frameArgument, x_operatorKind, x_operatorValue, x_operatorLeft, x_workedOut) (nI c) :=
  br_f (nI_pos (by omega)) (br_f (nI_ge h (by omega)) hp)
theorem mx_isClass_f {post : Int32 → Prop} {p : Int32} {nc : Nat} (h : p < 0 ∨ (¬ p < 0 ∧ nI nc ≤ p)) (hp : post 0) : wpX_isClass post (nI nc, x_superCount, x_objectCount, x_draftSpecialCount, x_state, x_stepCount, x_latestValue, x_enterGeneric, x_enterPlace, x_frameCount, x_operatorCount, x_valueCount, x_lineClass, x_lineLength, x_isSealed, x_classHasSlot, x_classSlot, x_superDraft, x_objectClass, x_objectHasSlot, x_objectSlot, x_parameterCount, x_methodGeneric, x_specialiser, x_tokenKind, x_tokenValue, x_tokenCount, x_argument, x_rank, x_orderPlace, x_frameMethod, x_framePlace, x_frameToken, x_frameOperators, x_frameArgument, x_operatorKind, x_operatorValue, x_operatorLeft, x_workedOut) p := by
  rcases h with h | ⟨h1, h2⟩
  · exact br_t h hp
  · exact br_f h1 (br_t h2 hp)
theorem my_out_t {post : Int32 → Prop} {c n : Nat} (h : c < n) (hn : n < 2 ^ 31) (hp : post 0) : wpY_out post (nI c).toInt64 (nI n) :=
  br_f (fun z => nI_pos (by omega) (bs_l64.mp z)) (br_t (bs_lt64.mpr (nI_lt h hn)) hp)
theorem my_out_f {post : Int32 → Prop} {p q : Int32} (h : p < 0 ∨ (¬ p < 0 ∧ q ≤ p)) (hp : post 1) : wpY_out post p.toInt64 q := by
  rcases h with h | ⟨h1, h2⟩
  · exact br_t (bs_l64.mpr h) hp
  · exact br_f (fun z => h1 (bs_l64.mp z)) (br_f (fun z => absurd (bs_lt64.mp z) (Int32.not_lt.mpr h2)) hp)
theorem mx_under_20 {post : Int32 → SX → Prop} {c ns : Nat} (hs3 : ns < 3) (hd : (∃ i, i < ns ∧ x_superDraft i = nI c) → post 0 (x_classCount, nI ns, x_objectCount, x_draftSpecialCount, x_state, x_stepCount, x_latestValue, x_enterGeneric, x_enterPlace, x_frameCount, x_operatorCount, x_valueCount, x_lineClass, x_lineLength, x_isSealed, x_classHasSlot, x_classSlot, x_superDraft, x_objectClass, x_objectHasSlot, x_objectSlot, x_parameterCount, x_methodGeneric, x_specialiser, x_tokenKind, x_tokenValue, x_tokenCount, x_argument, x_rank, x_orderPlace, x_frameMethod, x_framePlace, x_frameToken, x_frameOperators, x_frameArgument, x_operatorKind, x_operatorValue, x_operatorLeft, x_workedOut)) (hn : (∀ i, i < ns → ¬ x_superDraft i = nI c) → post 1 (x_classCount, nI (ns + 1), x_objectCount, x_draftSpecialCount, x_state, x_stepCount, x_latestValue, x_enterGeneric, x_enterPlace, x_frameCount, x_operatorCount, x_valueCount, x_lineClass, x_lineLength, x_isSealed, x_classHasSlot, x_classSlot, upd x_superDraft ns (nI c), x_objectClass, x_objectHasSlot, x_objectSlot, x_parameterCount, x_methodGeneric, x_specialiser, x_tokenKind, x_tokenValue, x_tokenCount, x_argument, x_rank, x_orderPlace, x_frameMethod, x_framePlace, x_frameToken, x_frameOperators, x_frameArgument, x_operatorKind, x_operatorValue, x_operatorLeft, x_workedOut)) : ∃ n, wX_under_20 post (nI c) x_classCount (nI ns) x_objectCount x_draftSpecialCount x_state x_stepCount x_latestValue x_enterGeneric x_enterPlace x_frameCount x_operatorCount x_valueCount x_lineClass x_lineLength x_isSealed x_classHasSlot x_classSlot x_superDraft x_objectClass x_objectHasSlot x_objectSlot x_parameterCount x_methodGeneric x_specialiser x_tokenKind x_tokenValue x_tokenCount x_argument x_rank x_orderPlace x_frameMethod x_framePlace x_frameToken x_frameOperators x_frameArgument x_operatorKind x_operatorValue x_operatorLeft x_workedOut n 0 := by
  refine loop_0 (σ := Unit) (fun n i _ => wX_under_20 post (nI c) x_classCount (nI ns) x_objectCount x_draftSpecialCount x_state x_stepCount x_latestValue x_enterGeneric x_enterPlace x_frameCount x_operatorCount x_valueCount x_lineClass x_lineLength x_isSealed x_classHasSlot x_classSlot x_superDraft x_objectClass x_objectHasSlot x_objectSlot x_parameterCount x_methodGeneric x_specialiser x_tokenKind x_tokenValue x_tokenCount x_argument x_rank x_orderPlace x_frameMethod x_framePlace x_frameToken x_frameOperators x_frameArgument x_operatorKind x_operatorValue x_operatorLeft x_workedOut n (nI i)) (fun i _ => ∀ j, j < i → ¬ x_superDraft j = nI c) ns () lt_0 ?_ ?_
  · intro n _ hI
    refine br_t (nI_le (Nat.le_refl _) (by omega)) ⟨pk_in ns 3 hs3, nm_r ?_ (nm_r (nI_1 ns) (hn hI))⟩
    rw [bs_clk (by omega)]
  · intro n i _ hi hI k
    refine br_f (nI_ge hi (by omega)) ⟨pk_in i 3 (by omega), ?_⟩
    rw [bs_clk (n := i) (by omega)]
    exact br_c (fun e => hd ⟨i, hi, e⟩) (fun e => nm_r (nI_1 i) (k () (lt_s hI e)))
theorem my_under_24 {post : Int32 → SY → Prop} {c ns : Nat} (hc : c < 16) (hs3 : ns < 3) (hd : (∃ i, i < ns ∧ y_drafted i = nI c) → post 0 (y_classes, nI ns, y_objects, y_specials, y_depth, y_ops, y_held, y_fault, y_steps, y_shownSteps, y_result, y_line, y_lineLength, y_has, y_sealed, y_initial, y_drafted, y_draftHas, y_draftInitial, y_lists, y_listLength, y_gone, y_classOfObject, y_slots, y_parameters, y_generic, y_single, y_special, y_kind, y_tokens, y_with, y_methodAt, y_pc, y_chosen, y_many, y_reached, y_opsAt, y_broken, y_arguments, y_operands, y_operator, y_got)) (hn : (∀ i, i < ns → ¬ y_drafted i = nI c) → post 1 (y_classes, nI (ns + 1), y_objects, y_specials, y_depth, y_ops, y_held, y_fault, y_steps, y_shownSteps, y_result, y_line, y_lineLength, y_has, y_sealed, y_initial, upd y_drafted ns (nI c), y_draftHas, y_draftInitial, y_lists, y_listLength, y_gone, y_classOfObject, y_slots, y_parameters, y_generic, y_single, y_special, y_kind, y_tokens, y_with, y_methodAt, y_pc, y_chosen, y_many, y_reached, y_opsAt, y_broken, y_arguments, y_operands, y_operator, y_got)) : ∃ n, wY_under_24 post (nI c) y_classes (nI ns) y_objects y_specials y_depth y_ops y_held y_fault y_steps y_shownSteps y_result y_line y_lineLength y_has y_sealed y_initial y_drafted y_draftHas y_draftInitial y_lists y_listLength y_gone y_classOfObject y_slots y_parameters y_generic y_single y_special y_kind y_tokens y_with y_methodAt y_pc y_chosen y_many y_reached y_opsAt y_broken y_arguments y_operands y_operator y_got n 0 := by
  refine loop_0 (σ := Unit) (fun n i _ => wY_under_24 post (nI c) y_classes (nI ns) y_objects y_specials y_depth y_ops y_held y_fault y_steps y_shownSteps y_result y_line y_lineLength y_has y_sealed y_initial y_drafted y_draftHas y_draftInitial y_lists y_listLength y_gone y_classOfObject y_slots y_parameters y_generic y_single y_special y_kind y_tokens y_with y_methodAt y_pc y_chosen y_many y_reached y_opsAt y_broken y_arguments y_operands y_operator y_got n (nI i)) (fun i _ => ∀ j, j < i → ¬ y_drafted j = nI c) ns () lt_0 ?_ ?_
  · intro n _ hI
    refine br_t (nI_le (Nat.le_refl _) (by omega)) (nm_r (nI_1 ns) ⟨pk_in ns 3 hs3, nm_r ?_ (hn hI)⟩)
    rw [bs_clk (by omega), bs_vb8 (by omega)]
  · intro n i _ hi hI k
    refine br_f (nI_ge hi (by omega)) ⟨pk_in i 3 (by omega), ?_⟩
    rw [bs_clk (n := i) (by omega)]
    exact br_c (fun e => hd ⟨i, hi, e⟩) (fun e => nm_r (nI_1 i) (k () (lt_s hI e)))
theorem mx_under_t {post : Int32 → SX → Prop} {c nc ns : Nat} (hn : nc ≤ 16) (hc : c < nc) (hs3 : ns ≤ 3) (h3 : ns = 3 → post 0 (nI nc, nI ns, x_objectCount, x_draftSpecialCount, x_state, x_stepCount, x_latestValue, x_enterGeneric, x_enterPlace, x_frameCount, x_operatorCount, x_valueCount, x_lineClass, x_lineLength, x_isSealed, x_classHasSlot, x_classSlot, x_superDraft, x_objectClass, x_objectHasSlot, x_objectSlot, x_parameterCount, x_methodGeneric, x_specialiser, x_tokenKind, x_tokenValue, x_tokenCount, x_argument, x_rank, x_orderPlace, x_frameMethod, x_framePlace, x_frameToken, x_frameOperators, x_frameArgument, x_operatorKind, x_operatorValue, x_operatorLeft, x_workedOut)) (hd : (∃ i, i < ns ∧ x_superDraft i = nI c) → post 0 (nI nc, nI ns, x_objectCount, x_draftSpecialCount, x_state, x_stepCount, x_latestValue, x_enterGeneric, x_enterPlace, x_frameCount, x_operatorCount, x_valueCount, x_lineClass, x_lineLength, x_isSealed, x_classHasSlot, x_classSlot, x_superDraft, x_objectClass, x_objectHasSlot, x_objectSlot, x_parameterCount, x_methodGeneric, x_specialiser, x_tokenKind, x_tokenValue, x_tokenCount, x_argument, x_rank, x_orderPlace, x_frameMethod, x_framePlace, x_frameToken, x_frameOperators, x_frameArgument, x_operatorKind, x_operatorValue, x_operatorLeft, x_workedOut)) (hw : ns < 3 → (∀ i, i < ns → ¬ x_superDraft i = nI c) → post 1 (nI nc, nI (ns + 1), x_objectCount, x_draftSpecialCount, x_state, x_stepCount, x_latestValue, x_enterGeneric, x_enterPlace, x_frameCount, x_operatorCount, x_valueCount, x_lineClass, x_lineLength, x_isSealed, x_classHasSlot, x_classSlot, upd x_superDraft ns (nI c), x_objectClass, x_objectHasSlot, x_objectSlot, x_parameterCount, x_methodGeneric, x_specialiser, x_tokenKind, x_tokenValue, x_tokenCount, x_argument, x_rank, x_orderPlace, x_frameMethod, x_framePlace, x_frameToken, x_frameOperators, x_frameArgument, x_operatorKind, x_operatorValue, x_operatorLeft, x_workedOut)) : wpX_under post (nI nc, nI ns, x_objectCount, x_draftSpecialCount, x_state, x_stepCount, x_latestValue, x_enterGeneric, x_enterPlace, x_frameCount, x_operatorCount, x_valueCount, x_lineClass, x_lineLength, x_isSealed, x_classHasSlot, x_classSlot, x_superDraft, x_objectClass, x_objectHasSlot, x_objectSlot, x_parameterCount, x_methodGeneric, x_specialiser, x_tokenKind, x_tokenValue, x_tokenCount, x_argument, x_rank, x_orderPlace, x_frameMethod, x_framePlace, x_frameToken, x_frameOperators, x_frameArgument, x_operatorKind, x_operatorValue, x_operatorLeft, x_workedOut) (nI c) := by
  unfold wpX_under
  refine mx_isClass_t hc hn ?_
  refine br_f (by decide) ?_
  refine pk_eq ns 3 (fun e => h3 e) (fun e => ?_)
  exact mx_under_20 (by omega) hd (hw (by omega))
theorem my_under_t {post : Int32 → SY → Prop} {c nc ns : Nat} (hn : nc ≤ 16) (hc : c < nc) (hs3 : ns ≤ 3) (h3 : ns = 3 → post 0 (nI nc, nI ns, y_objects, y_specials, y_depth, y_ops, y_held, y_fault, y_steps, y_shownSteps, y_result, y_line, y_lineLength, y_has, y_sealed, y_initial, y_drafted, y_draftHas, y_draftInitial, y_lists, y_listLength, y_gone, y_classOfObject, y_slots, y_parameters, y_generic, y_single, y_special, y_kind, y_tokens, y_with, y_methodAt, y_pc, y_chosen, y_many, y_reached, y_opsAt, y_broken, y_arguments, y_operands, y_operator, y_got)) (hd : (∃ i, i < ns ∧ y_drafted i = nI c) → post 0 (nI nc, nI ns, y_objects, y_specials, y_depth, y_ops, y_held, y_fault, y_steps, y_shownSteps, y_result, y_line, y_lineLength, y_has, y_sealed, y_initial, y_drafted, y_draftHas, y_draftInitial, y_lists, y_listLength, y_gone, y_classOfObject, y_slots, y_parameters, y_generic, y_single, y_special, y_kind, y_tokens, y_with, y_methodAt, y_pc, y_chosen, y_many, y_reached, y_opsAt, y_broken, y_arguments, y_operands, y_operator, y_got)) (hw : ns < 3 → (∀ i, i < ns → ¬ y_drafted i = nI c) → post 1 (nI nc, nI (ns + 1), y_objects, y_specials, y_depth, y_ops, y_held, y_fault, y_steps, y_shownSteps, y_result, y_line, y_lineLength, y_has, y_sealed, y_initial, upd y_drafted ns (nI c), y_draftHas, y_draftInitial, y_lists, y_listLength, y_gone, y_classOfObject, y_slots, y_parameters, y_generic, y_single, y_special, y_kind, y_tokens, y_with, y_methodAt, y_pc, y_chosen, y_many, y_reached, y_opsAt, y_broken, y_arguments, y_operands, y_operator, y_got)) : wpY_under post (nI nc, nI ns, y_objects, y_specials, y_depth, y_ops, y_held, y_fault, y_steps, y_shownSteps, y_result, y_line, y_lineLength, y_has, y_sealed, y_initial, y_drafted, y_draftHas, y_draftInitial, y_lists, y_listLength, y_gone, y_classOfObject, y_slots, y_parameters, y_generic, y_single, y_special, y_kind, y_tokens, y_with, y_methodAt, y_pc, y_chosen, y_many, y_reached, y_opsAt, y_broken, y_arguments, y_operands, y_operator, y_got) (nI c) := by
  unfold wpY_under
  refine my_out_t hc (by omega) ?_
  refine br_t rfl ?_
  refine pk_eq ns 3 (fun e => h3 e) (fun e => ?_)
  exact my_under_24 (by omega) (by omega) hd (hw (by omega))
end
theorem rl_sup_u {nc ns c : Nat} {SD : Nat → Int32} (h : rl_sup nc ns SD) (hc : c < nc) (h3 : ns < 3) : rl_sup nc (ns + 1) (upd SD ns (nI c)) := by
  refine ⟨by omega, fun i hi => ?_⟩
  by_cases e : i = ns
  · rw [e]; exact ⟨c, hc, pk_us⟩
  · rw [pk_un e]; exact h.2 i (by omega)
theorem i_vc_under {k : Nat} {u : SX} {v : SY} (I : i_Rel k u v) (hk : k + 9 ≤ 4608) (v1 : Int32) : wpX_under (fun r u' => wpY_under (fun r' v' => r' = r ∧ i_Rel (k + 9) u' v') v v1) u v1 := by
  obtain ⟨x_classCount, x_superCount, x_objectCount, x_draftSpecialCount, x_state, x_stepCount, x_latestValue, x_enterGeneric, x_enterPlace, x_frameCount, x_operatorCount, x_valueCount, x_lineClass, x_lineLength, x_isSealed, x_classHasSlot, x_classSlot, x_superDraft, x_objectClass, x_objectHasSlot, x_objectSlot, x_parameterCount, x_methodGeneric, x_specialiser, x_tokenKind, x_tokenValue, x_tokenCount, x_argument, x_rank, x_orderPlace, x_frameMethod, x_framePlace, x_frameToken, x_frameOperators, x_frameArgument, x_operatorKind, x_operatorValue, x_operatorLeft, x_workedOut⟩ := u
  obtain ⟨y_classes, y_supers, y_objects, y_specials, y_depth, y_ops, y_held, y_fault, y_steps, y_shownSteps, y_result, y_line, y_lineLength, y_has, y_sealed, y_initial, y_drafted, y_draftHas, y_draftInitial, y_lists, y_listLength, y_gone, y_classOfObject, y_slots, y_parameters, y_generic, y_single, y_special, y_kind, y_tokens, y_with, y_methodAt, y_pc, y_chosen, y_many, y_reached, y_opsAt, y_broken, y_arguments, y_operands, y_operator, y_got⟩ := v
  obtain ⟨nc, no, ns, nd, rfl, rfl, rfl, rfl, rfl, rfl, rfl, rfl, rfl, rfl, rfl, rfl, rfl, rfl, rfl, rfl, rfl, rfl, rfl, rfl, hcls, hsup, hslt, hobj, hpar, hgen, htok, hbod, hspc, hunq⟩ := I
  have J : i_Rel (k + 9) (nI nc, nI ns, nI no, nI nd, x_state, x_stepCount, x_latestValue, x_enterGeneric, x_enterPlace, x_frameCount, x_operatorCount, x_valueCount, x_lineClass, x_lineLength, x_isSealed, x_classHasSlot, x_classSlot, x_superDraft, x_objectClass, x_objectHasSlot, x_objectSlot, x_parameterCount, x_methodGeneric, x_specialiser, x_tokenKind, x_tokenValue, x_tokenCount, x_argument, x_rank, x_orderPlace, x_frameMethod, x_framePlace, x_frameToken, x_frameOperators, x_frameArgument, x_operatorKind, x_operatorValue, x_operatorLeft, x_workedOut) (nI nc, nI ns, nI no, nI nd, y_depth, y_ops, y_held, y_fault, y_steps, x_stepCount, x_latestValue, x_lineClass, x_lineLength, y_has, x_isSealed, y_initial, x_superDraft, y_draftHas, y_draftInitial, y_lists, y_listLength, y_gone, x_objectClass, y_slots, x_parameterCount, x_methodGeneric, y_single, y_special, x_tokenKind, x_tokenCount, x_tokenValue, y_methodAt, y_pc, y_chosen, y_many, y_reached, y_opsAt, y_broken, y_arguments, y_operands, y_operator, y_got) := ⟨nc, no, ns, nd, rfl, rfl, rfl, rfl, rfl, rfl, rfl, rfl, rfl, rfl, rfl, rfl, rfl, rfl, rfl, rfl, rfl, rfl, rfl, rfl, hcls, hsup, hslt, hobj, hpar, hgen, htok, hbod, hspc, hunq⟩
  have hn : nc ≤ 16 := hcls.2.1
  rcases bs_ar2 v1 (n := nc) (by omega) with h | ⟨c, hc, rfl⟩
  · unfold wpX_under
    refine mx_isClass_f h (br_t rfl ?_)
    unfold wpY_under
    exact my_out_f h (br_f (by decide) ⟨rfl, J⟩)
  · refine mx_under_t hn hc hsup.1 (fun h3 => ?_) (fun hd => ?_) (fun h3 hd => ?_)
    · exact my_under_t hn hc hsup.1 (fun _ => ⟨rfl, J⟩) (fun _ => ⟨rfl, J⟩) (fun h => by omega)
    · exact my_under_t hn hc hsup.1 (fun _ => ⟨rfl, J⟩) (fun _ => ⟨rfl, J⟩) (fun h h' => by obtain ⟨i, hi, e⟩ := hd; exact absurd e (h' i hi))
    · refine my_under_t hn hc hsup.1 (fun h => by omega) (fun h => by obtain ⟨i, hi, e⟩ := h; exact absurd e (hd i hi)) (fun _ _ => ⟨rfl, ?_⟩)
      exact ⟨nc, no, ns + 1, nd, rfl, rfl, rfl, rfl, rfl, rfl, rfl, rfl, rfl, rfl, rfl, rfl, rfl, rfl, rfl, rfl, rfl, rfl, rfl, rfl, hcls, rl_sup_u hsup hc h3, hslt, hobj, hpar, hgen, htok, hbod, hspc, hunq⟩
end
section
/-! values, objects: ints, objects, their classes -/
theorem ob_K : (4294967296 : Int64) = lN 4294967296 := by decide
theorem ob_no {no : Nat} (h : no ≤ 20) : (nI no).toInt64 = lN no := nI_l (by omega)
theorem ob_X {no : Nat} (hno : no ≤ 20) {v : Int64} : (¬ v < 4294967296 ∧ ¬ (4294967296 + (nI no).toInt64) ≤ v) ↔ ∃ k, k < no ∧ v = lN (4294967296 + k) := by
  rw [ob_no hno, ob_K, lN_add]
  constructor
  · rintro ⟨h1, h2⟩
    have h0 : ¬ v < 0 := by
      intro z
      apply h1
      rw [Int64.lt_iff_toInt_lt] at z ⊢
      rw [pk_lT (by omega)]
      have : (0 : Int64).toInt = 0 := by decide
      omega
    obtain ⟨j, hj, rfl⟩ := pk_lOf h0
    rw [pk_lLT hj (by omega)] at h1
    rw [pk_lLE (by omega) hj] at h2
    exact ⟨j - 4294967296, by omega, congrArg lN (by omega)⟩
  · rintro ⟨k, hk, rfl⟩
    rw [pk_lLT (by omega) (by omega), pk_lLE (by omega) (by omega)]
    omega
theorem ob_Y {no : Nat} (hno : no ≤ 20) {v : Int64} : (¬ (v - 4294967296) < 0 ∧ (v - 4294967296) < (nI no).toInt64) ↔ ∃ k, k < no ∧ v = lN (4294967296 + k) := by
  rw [ob_no hno, ob_K]
  constructor
  · rintro ⟨h1, h2⟩
    obtain ⟨j, hj, e⟩ := pk_lOf h1
    rw [e, pk_lLT hj (by omega)] at h2
    refine ⟨j, h2, ?_⟩
    have e2 : v - lN 4294967296 + lN 4294967296 = lN j + lN 4294967296 := by rw [e]
    rw [Int64.sub_add_cancel, lN_add] at e2
    rw [e2]
    exact congrArg lN (by omega)
  · rintro ⟨k, hk, rfl⟩
    have e : lN (4294967296 + k) - lN 4294967296 = lN k := by rw [lN_sub (by omega)]; exact congrArg lN (by omega)
    rw [e]
    refine ⟨?_, (pk_lLT (by omega) (by omega)).mpr hk⟩
    rw [Int64.lt_iff_toInt_lt, pk_lT (by omega)]
    have : (0 : Int64).toInt = 0 := by decide
    omega
theorem ob_ix {k : Nat} (hk : k < 20) : (lN (4294967296 + k) - 4294967296).toInt32 = nI k := by
  rw [ob_K, lN_sub (by omega), Nat.add_sub_cancel_left, lN_i]
theorem ob_ni {k : Nat} (hk : k < 20) : ¬ rl_int (lN (4294967296 + k)) := by
  intro h
  have h1 := congrArg Int64.toInt h
  rw [pk_lT (by omega), Int32.toInt_toInt64] at h1
  have h2 := Int32.toInt_lt (lN (4294967296 + k)).toInt32
  omega
theorem ob_inj {a b : Nat} (ha : a < 20) (hb : b < 20) (h : lN (4294967296 + a) = lN (4294967296 + b)) : a = b := by
  have := (pk_lEQ (by omega) (by omega)).mp h
  omega
theorem ob_mono {a b : Nat} (h : a ≤ b) {v : Int64} (hv : rl_val a v) : rl_val b v := by
  rcases hv with h1 | ⟨k, hk, e⟩
  · exact Or.inl h1
  · exact Or.inr ⟨k, by omega, e⟩
/-- the class of a value, -1 if it is none -/
noncomputable def ob_kc (OC : Nat → Int32) (no : Nat) (v : Int64) : Int32 := bs_ci (rl_int v) 1 (bs_ci (∃ k, k < no ∧ v = lN (4294967296 + k)) (OC (v - 4294967296).toInt32.toNatClampNeg) (-1))
theorem ob_kc_i {OC : Nat → Int32} {no : Nat} {v : Int64} (h : rl_int v) : ob_kc OC no v = 1 := bs_ct h
theorem ob_kc_o {OC : Nat → Int32} {no k : Nat} (hno : no ≤ 20) (h : k < no) : ob_kc OC no (lN (4294967296 + k)) = OC k := by
  unfold ob_kc
  rw [bs_cf (ob_ni (by omega)), bs_ct ⟨k, h, rfl⟩, ob_ix (by omega), bs_clk (by omega)]
theorem ob_kc_n {OC : Nat → Int32} {no : Nat} {v : Int64} (h : ¬ rl_val no v) : ob_kc OC no v = -1 := by
  unfold ob_kc
  rw [bs_cf (fun z => h (Or.inl z)), bs_cf (fun z => h (Or.inr z))]
theorem ob_kc_v {nc no : Nat} {OC OH : Nat → Int32} {OS SL : Nat → Int64} (hc : 2 ≤ nc) (h : rl_obj nc no OC OH OS SL) {v : Int64} (hv : rl_val no v) : ∃ c, c < nc ∧ ob_kc OC no v = nI c := by
  rcases hv with h1 | ⟨k, hk, rfl⟩
  · exact ⟨1, by omega, ob_kc_i h1⟩
  · rw [ob_kc_o h.1 hk]; exact h.2.1 k hk
section
variable {x_classCount : Int32} {x_superCount : Int32} {x_objectCount : Int32} {x_draftSpecialCount : Int32} {x_state : Int32} {x_stepCount : Int32} {x_latestValue : Int64} {x_enterGeneric : Int32} {x_enterPlace : Int32} {x_frameCount : Int32} {x_operatorCount : Int32} {x_valueCount : Int32} {x_lineClass : Nat → Int32} {x_lineLength : Nat → Int32} {x_isSealed : Nat → Int32} {x_classHasSlot : Nat → Int32} {x_classSlot : Nat → Int32} {x_superDraft : Nat → Int32} {x_objectClass : Nat → Int32} {x_objectHasSlot : Nat → Int32} {x_objectSlot : Nat → Int64} {x_parameterCount : Nat → Int32} {x_methodGeneric : Nat → Int32} {x_specialiser : Nat → Int64} {x_tokenKind : Nat → Int32} {x_tokenValue : Nat → Int32} {x_tokenCount : Nat → Int32} {x_argument : Nat → Int64} {x_rank : Nat → Int32} {x_orderPlace : Nat → Int32} {x_frameMethod : Nat → Int32} {x_framePlace : Nat → Int32} {x_frameToken : Nat → Int32} {x_frameOperators : Nat → Int32} {x_frameArgument : Nat → Int64} {x_operatorKind : Nat → Int32} {x_operatorValue : Nat → Int32} {x_operatorLeft : Nat → Int32} {x_workedOut : Nat → Int64} {y_classes : Int32} {y_supers : Int32} {y_objects : Int32} {y_specials : Int32} {y_depth : Int32} {y_ops : Int32} {y_held : Int32} {y_fault : Int32} {y_steps : Int32} {y_shownSteps : Int32} {y_result : Int64} {y_line : Nat → Int32} {y_lineLength : Nat → Int32} {y_has : Nat → Int32} {y_sealed : Nat → Int32} {y_initial : Nat → Int32} {y_drafted : Nat → Int32} {y_draftHas : Nat → Int32} {y_draftInitial : Nat → Int32} {y_lists : Nat → Int32} {y_listLength : Nat → Int32} {y_gone : Nat → Int32} {y_classOfObject : Nat → Int32} {y_slots : Nat → Int64} {y_parameters : Nat → Int32} {y_generic : Nat → Int32} {y_single : Nat → Int32} {y_special : Nat → Int64} {y_kind : Nat → Int32} {y_tokens : Nat → Int32} {y_with : Nat → Int32} {y_methodAt : Nat → Int32} {y_pc : Nat → Int32} {y_chosen : Nat → Int32} {y_many : Nat → Int32} {y_reached : Nat → Int32} {y_opsAt : Nat → Int32} {y_broken : Nat → Int32} {y_arguments : Nat → Int64} {y_operands : Nat → Int64} {y_operator : Nat → Int32} {y_got : Nat → Int32}
theorem mx_isInt_t {post : Int32 → Prop} {v : Int64} (h : rl_int v) (hp : post 1) : wpX_isInt post (x_classCount, x_superCount, x_objectCount, x_draftSpecialCount, x_state, x_stepCount, x_latestValue, x_enterGeneric, x_enterPlace, x_frameCount, x_operatorCount, x_valueCount, x_lineClass, x_lineLength, x_isSealed, x_classHasSlot, x_classSlot, x_superDraft, x_objectClass, x_objectHasSlot, x_objectSlot, x_parameterCount, x_methodGeneric, x_specialiser, x_tokenKind, x_tokenValue, x_tokenCount, x_argument, x_rank, x_orderPlace, x_frameMethod, x_framePlace, x_frameToken, x_frameOperators, x_frameArgument, x_operatorKind, x_operatorValue, x_operatorLeft, x_workedOut) v := br_t h hp
theorem mx_isInt_f {post : Int32 → Prop} {v : Int64} (h : ¬ rl_int v) (hp : post 0) : wpX_isInt post (x_classCount, x_superCount, x_objectCount, x_draftSpecialCount, x_state, x_stepCount, x_latestValue, x_enterGeneric, x_enterPlace, x_frameCount, x_operatorCount, x_valueCount, x_lineClass, x_lineLength, x_isSealed, x_classHasSlot, x_classSlot, x_superDraft, x_objectClass, x_objectHasSlot, x_objectSlot, x_parameterCount, x_methodGeneric, x_specialiser, x_tokenKind, x_tokenValue, x_tokenCount, x_argument, x_rank, x_orderPlace, x_frameMethod, x_framePlace, x_frameToken, x_frameOperators, x_frameArgument, x_operatorKind, x_operatorValue, x_operatorLeft, x_workedOut) v := br_f h hp
theorem mx_isObject_t {post : Int32 → Prop} {k no : Nat} (hno : no ≤ 20) (hk : k < no) (hp : post 1) : wpX_isObject post (x_classCount, x_superCount, nI no, x_draftSpecialCount, x_state, x_stepCount, x_latestValue, x_enterGeneric, x_enterPlace, x_frameCount, x_operatorCount, x_valueCount, x_lineClass, x_lineLength, x_isSealed, x_classHasSlot, x_classSlot, x_superDraft, x_objectClass, x_objectHasSlot, x_objectSlot, x_parameterCount, x_methodGeneric, x_specialiser, x_tokenKind, x_tokenValue, x_tokenCount, x_argument, x_rank, x_orderPlace, x_frameMethod, x_framePlace, x_frameToken, x_frameOperators, x_frameArgument, x_operatorKind, x_operatorValue, x_operatorLeft, x_workedOut) (lN (4294967296 + k)) := by
  have h := (ob_X hno).mpr ⟨k, hk, rfl⟩
  exact br_f h.1 (br_f h.2 hp)
theorem mx_isObject_f {post : Int32 → Prop} {no : Nat} {v : Int64} (hno : no ≤ 20) (hv : ¬ ∃ k, k < no ∧ v = lN (4294967296 + k)) (hp : post 0) : wpX_isObject post (x_classCount, x_superCount, nI no, x_draftSpecialCount, x_state, x_stepCount, x_latestValue, x_enterGeneric, x_enterPlace, x_frameCount, x_operatorCount, x_valueCount, x_lineClass, x_lineLength, x_isSealed, x_classHasSlot, x_classSlot, x_superDraft, x_objectClass, x_objectHasSlot, x_objectSlot, x_parameterCount, x_methodGeneric, x_specialiser, x_tokenKind, x_tokenValue, x_tokenCount, x_argument, x_rank, x_orderPlace, x_frameMethod, x_framePlace, x_frameToken, x_frameOperators, x_frameArgument, x_operatorKind, x_operatorValue, x_operatorLeft, x_workedOut) v := by
  refine br_c (fun _ => hp) (fun h1 => br_c (fun _ => hp) (fun h2 => ?_))
  exact absurd ((ob_X hno).mp ⟨h1, h2⟩) hv
theorem mx_isValue_t {post : Int32 → Prop} {no : Nat} {v : Int64} (hno : no ≤ 20) (hv : rl_val no v) (hp : post 1) : wpX_isValue post (x_classCount, x_superCount, nI no, x_draftSpecialCount, x_state, x_stepCount, x_latestValue, x_enterGeneric, x_enterPlace, x_frameCount, x_operatorCount, x_valueCount, x_lineClass, x_lineLength, x_isSealed, x_classHasSlot, x_classSlot, x_superDraft, x_objectClass, x_objectHasSlot, x_objectSlot, x_parameterCount, x_methodGeneric, x_specialiser, x_tokenKind, x_tokenValue, x_tokenCount, x_argument, x_rank, x_orderPlace, x_frameMethod, x_framePlace, x_frameToken, x_frameOperators, x_frameArgument, x_operatorKind, x_operatorValue, x_operatorLeft, x_workedOut) v := by
  unfold wpX_isValue
  by_cases hi : rl_int v
  · exact mx_isInt_t hi (br_f (by decide) hp)
  · refine mx_isInt_f hi (br_t rfl ?_)
    rcases hv with h | ⟨k, hk, rfl⟩
    · exact absurd h hi
    · exact mx_isObject_t hno hk (br_f (by decide) hp)
theorem mx_isValue_f {post : Int32 → Prop} {no : Nat} {v : Int64} (hno : no ≤ 20) (hv : ¬ rl_val no v) (hp : post 0) : wpX_isValue post (x_classCount, x_superCount, nI no, x_draftSpecialCount, x_state, x_stepCount, x_latestValue, x_enterGeneric, x_enterPlace, x_frameCount, x_operatorCount, x_valueCount, x_lineClass, x_lineLength, x_isSealed, x_classHasSlot, x_classSlot, x_superDraft, x_objectClass, x_objectHasSlot, x_objectSlot, x_parameterCount, x_methodGeneric, x_specialiser, x_tokenKind, x_tokenValue, x_tokenCount, x_argument, x_rank, x_orderPlace, x_frameMethod, x_framePlace, x_frameToken, x_frameOperators, x_frameArgument, x_operatorKind, x_operatorValue, x_operatorLeft, x_workedOut) v := by
  unfold wpX_isValue
  exact mx_isInt_f (fun z => hv (Or.inl z)) (br_t rfl (mx_isObject_f hno (fun z => hv (Or.inr z)) (br_t rfl hp)))
theorem mx_classOf {post : Int32 → Prop} {no : Nat} {v : Int64} (hno : no ≤ 20) (hp : post (ob_kc x_objectClass no v)) : wpX_classOf post (x_classCount, x_superCount, nI no, x_draftSpecialCount, x_state, x_stepCount, x_latestValue, x_enterGeneric, x_enterPlace, x_frameCount, x_operatorCount, x_valueCount, x_lineClass, x_lineLength, x_isSealed, x_classHasSlot, x_classSlot, x_superDraft, x_objectClass, x_objectHasSlot, x_objectSlot, x_parameterCount, x_methodGeneric, x_specialiser, x_tokenKind, x_tokenValue, x_tokenCount, x_argument, x_rank, x_orderPlace, x_frameMethod, x_framePlace, x_frameToken, x_frameOperators, x_frameArgument, x_operatorKind, x_operatorValue, x_operatorLeft, x_workedOut) v := by
  unfold wpX_classOf
  by_cases hi : rl_int v
  · rw [ob_kc_i hi] at hp
    exact mx_isInt_t hi (br_f (by decide) hp)
  · refine mx_isInt_f hi (br_t rfl ?_)
    by_cases ho : ∃ k, k < no ∧ v = lN (4294967296 + k)
    · obtain ⟨k, hk, rfl⟩ := ho
      rw [ob_kc_o hno hk] at hp
      refine mx_isObject_t hno hk (br_f (by decide) ⟨pk_in k 20 (by omega) (ob_ix (by omega)), ?_⟩)
      rw [ob_ix (by omega), bs_clk (by omega)]
      exact hp
    · rw [ob_kc_n (fun z => z.elim hi ho)] at hp
      exact mx_isObject_f hno ho (br_t rfl hp)
theorem my_oob_t {post : Int32 → Prop} {k no : Nat} (hno : no ≤ 20) (hk : k < no) (hp : post 0) : wpY_out post (lN (4294967296 + k) - 4294967296) (nI no) := by
  have h := (ob_Y hno).mpr ⟨k, hk, rfl⟩
  exact br_f h.1 (br_t h.2 hp)
theorem my_oob_f {post : Int32 → Prop} {no : Nat} {v : Int64} (hno : no ≤ 20) (hv : ¬ ∃ k, k < no ∧ v = lN (4294967296 + k)) (hp : post 1) : wpY_out post (v - 4294967296) (nI no) := by
  refine br_c (fun _ => hp) (fun h1 => br_c (fun h2 => ?_) (fun _ => hp))
  exact absurd ((ob_Y hno).mp ⟨h1, h2⟩) hv
theorem my_classOf {post : Int32 → Prop} {no : Nat} {v : Int64} (hno : no ≤ 20) (hp : post (ob_kc y_classOfObject no v)) : wpY_classOf post (y_classes, y_supers, nI no, y_specials, y_depth, y_ops, y_held, y_fault, y_steps, y_shownSteps, y_result, y_line, y_lineLength, y_has, y_sealed, y_initial, y_drafted, y_draftHas, y_draftInitial, y_lists, y_listLength, y_gone, y_classOfObject, y_slots, y_parameters, y_generic, y_single, y_special, y_kind, y_tokens, y_with, y_methodAt, y_pc, y_chosen, y_many, y_reached, y_opsAt, y_broken, y_arguments, y_operands, y_operator, y_got) v := by
  unfold wpY_classOf
  by_cases hi : rl_int v
  · rw [ob_kc_i hi] at hp
    exact br_t hi hp
  · refine br_f hi ?_
    by_cases ho : ∃ k, k < no ∧ v = lN (4294967296 + k)
    · obtain ⟨k, hk, rfl⟩ := ho
      rw [ob_kc_o hno hk] at hp
      refine my_oob_t hno hk (br_t rfl ⟨pk_in k 20 (by omega) (ob_ix (by omega)), ?_⟩)
      rw [ob_ix (by omega), bs_clk (by omega)]
      exact hp
    · rw [ob_kc_n (fun z => z.elim hi ho)] at hp
      exact my_oob_f hno ho (br_f (by decide) hp)
end
theorem i_vc_result {k : Nat} {u : SX} {v : SY} (I : i_Rel k u v) (hk : k + 9 ≤ 4608) : wpX_result (fun r => wpY_result (fun r' => r' = r ∧ i_Rel (k + 9) u v) v) u := by
  obtain ⟨x_classCount, x_superCount, x_objectCount, x_draftSpecialCount, x_state, x_stepCount, x_latestValue, x_enterGeneric, x_enterPlace, x_frameCount, x_operatorCount, x_valueCount, x_lineClass, x_lineLength, x_isSealed, x_classHasSlot, x_classSlot, x_superDraft, x_objectClass, x_objectHasSlot, x_objectSlot, x_parameterCount, x_methodGeneric, x_specialiser, x_tokenKind, x_tokenValue, x_tokenCount, x_argument, x_rank, x_orderPlace, x_frameMethod, x_framePlace, x_frameToken, x_frameOperators, x_frameArgument, x_operatorKind, x_operatorValue, x_operatorLeft, x_workedOut⟩ := u
  obtain ⟨y_classes, y_supers, y_objects, y_specials, y_depth, y_ops, y_held, y_fault, y_steps, y_shownSteps, y_result, y_line, y_lineLength, y_has, y_sealed, y_initial, y_drafted, y_draftHas, y_draftInitial, y_lists, y_listLength, y_gone, y_classOfObject, y_slots, y_parameters, y_generic, y_single, y_special, y_kind, y_tokens, y_with, y_methodAt, y_pc, y_chosen, y_many, y_reached, y_opsAt, y_broken, y_arguments, y_operands, y_operator, y_got⟩ := v
  obtain ⟨nc, no, ns, nd, rfl, rfl, rfl, rfl, rfl, rfl, rfl, rfl, rfl, rfl, rfl, rfl, rfl, rfl, rfl, rfl, rfl, rfl, rfl, rfl, hcls, hsup, hslt, hobj, hpar, hgen, htok, hbod, hspc, hunq⟩ := I
  have J : i_Rel (k + 9) (nI nc, nI ns, nI no, nI nd, x_state, x_stepCount, x_latestValue, x_enterGeneric, x_enterPlace, x_frameCount, x_operatorCount, x_valueCount, x_lineClass, x_lineLength, x_isSealed, x_classHasSlot, x_classSlot, x_superDraft, x_objectClass, x_objectHasSlot, x_objectSlot, x_parameterCount, x_methodGeneric, x_specialiser, x_tokenKind, x_tokenValue, x_tokenCount, x_argument, x_rank, x_orderPlace, x_frameMethod, x_framePlace, x_frameToken, x_frameOperators, x_frameArgument, x_operatorKind, x_operatorValue, x_operatorLeft, x_workedOut) (nI nc, nI ns, nI no, nI nd, y_depth, y_ops, y_held, y_fault, y_steps, x_stepCount, x_latestValue, x_lineClass, x_lineLength, y_has, x_isSealed, y_initial, x_superDraft, y_draftHas, y_draftInitial, y_lists, y_listLength, y_gone, x_objectClass, y_slots, x_parameterCount, x_methodGeneric, y_single, y_special, x_tokenKind, x_tokenCount, x_tokenValue, y_methodAt, y_pc, y_chosen, y_many, y_reached, y_opsAt, y_broken, y_arguments, y_operands, y_operator, y_got) := ⟨nc, no, ns, nd, rfl, rfl, rfl, rfl, rfl, rfl, rfl, rfl, rfl, rfl, rfl, rfl, rfl, rfl, rfl, rfl, rfl, rfl, rfl, rfl, hcls, hsup, hslt, hobj, hpar, hgen, htok, hbod, hspc, hunq⟩
  exact ⟨rfl, J⟩
theorem i_vc_steps {k : Nat} {u : SX} {v : SY} (I : i_Rel k u v) (hk : k + 9 ≤ 4608) : wpX_steps (fun r => wpY_steps (fun r' => r' = r ∧ i_Rel (k + 9) u v) v) u := by
  obtain ⟨x_classCount, x_superCount, x_objectCount, x_draftSpecialCount, x_state, x_stepCount, x_latestValue, x_enterGeneric, x_enterPlace, x_frameCount, x_operatorCount, x_valueCount, x_lineClass, x_lineLength, x_isSealed, x_classHasSlot, x_classSlot, x_superDraft, x_objectClass, x_objectHasSlot, x_objectSlot, x_parameterCount, x_methodGeneric, x_specialiser, x_tokenKind, x_tokenValue, x_tokenCount, x_argument, x_rank, x_orderPlace, x_frameMethod, x_framePlace, x_frameToken, x_frameOperators, x_frameArgument, x_operatorKind, x_operatorValue, x_operatorLeft, x_workedOut⟩ := u
  obtain ⟨y_classes, y_supers, y_objects, y_specials, y_depth, y_ops, y_held, y_fault, y_steps, y_shownSteps, y_result, y_line, y_lineLength, y_has, y_sealed, y_initial, y_drafted, y_draftHas, y_draftInitial, y_lists, y_listLength, y_gone, y_classOfObject, y_slots, y_parameters, y_generic, y_single, y_special, y_kind, y_tokens, y_with, y_methodAt, y_pc, y_chosen, y_many, y_reached, y_opsAt, y_broken, y_arguments, y_operands, y_operator, y_got⟩ := v
  obtain ⟨nc, no, ns, nd, rfl, rfl, rfl, rfl, rfl, rfl, rfl, rfl, rfl, rfl, rfl, rfl, rfl, rfl, rfl, rfl, rfl, rfl, rfl, rfl, hcls, hsup, hslt, hobj, hpar, hgen, htok, hbod, hspc, hunq⟩ := I
  have J : i_Rel (k + 9) (nI nc, nI ns, nI no, nI nd, x_state, x_stepCount, x_latestValue, x_enterGeneric, x_enterPlace, x_frameCount, x_operatorCount, x_valueCount, x_lineClass, x_lineLength, x_isSealed, x_classHasSlot, x_classSlot, x_superDraft, x_objectClass, x_objectHasSlot, x_objectSlot, x_parameterCount, x_methodGeneric, x_specialiser, x_tokenKind, x_tokenValue, x_tokenCount, x_argument, x_rank, x_orderPlace, x_frameMethod, x_framePlace, x_frameToken, x_frameOperators, x_frameArgument, x_operatorKind, x_operatorValue, x_operatorLeft, x_workedOut) (nI nc, nI ns, nI no, nI nd, y_depth, y_ops, y_held, y_fault, y_steps, x_stepCount, x_latestValue, x_lineClass, x_lineLength, y_has, x_isSealed, y_initial, x_superDraft, y_draftHas, y_draftInitial, y_lists, y_listLength, y_gone, x_objectClass, y_slots, x_parameterCount, x_methodGeneric, y_single, y_special, x_tokenKind, x_tokenCount, x_tokenValue, y_methodAt, y_pc, y_chosen, y_many, y_reached, y_opsAt, y_broken, y_arguments, y_operands, y_operator, y_got) := ⟨nc, no, ns, nd, rfl, rfl, rfl, rfl, rfl, rfl, rfl, rfl, rfl, rfl, rfl, rfl, rfl, rfl, rfl, rfl, rfl, rfl, rfl, rfl, hcls, hsup, hslt, hobj, hpar, hgen, htok, hbod, hspc, hunq⟩
  exact ⟨rfl, J⟩
theorem i_vc_classOf {k : Nat} {u : SX} {v : SY} (I : i_Rel k u v) (hk : k + 9 ≤ 4608) (a0 : Int64) : wpX_classOf (fun r => wpY_classOf (fun r' => r' = r ∧ i_Rel (k + 9) u v) v a0) u a0 := by
  obtain ⟨x_classCount, x_superCount, x_objectCount, x_draftSpecialCount, x_state, x_stepCount, x_latestValue, x_enterGeneric, x_enterPlace, x_frameCount, x_operatorCount, x_valueCount, x_lineClass, x_lineLength, x_isSealed, x_classHasSlot, x_classSlot, x_superDraft, x_objectClass, x_objectHasSlot, x_objectSlot, x_parameterCount, x_methodGeneric, x_specialiser, x_tokenKind, x_tokenValue, x_tokenCount, x_argument, x_rank, x_orderPlace, x_frameMethod, x_framePlace, x_frameToken, x_frameOperators, x_frameArgument, x_operatorKind, x_operatorValue, x_operatorLeft, x_workedOut⟩ := u
  obtain ⟨y_classes, y_supers, y_objects, y_specials, y_depth, y_ops, y_held, y_fault, y_steps, y_shownSteps, y_result, y_line, y_lineLength, y_has, y_sealed, y_initial, y_drafted, y_draftHas, y_draftInitial, y_lists, y_listLength, y_gone, y_classOfObject, y_slots, y_parameters, y_generic, y_single, y_special, y_kind, y_tokens, y_with, y_methodAt, y_pc, y_chosen, y_many, y_reached, y_opsAt, y_broken, y_arguments, y_operands, y_operator, y_got⟩ := v
  obtain ⟨nc, no, ns, nd, rfl, rfl, rfl, rfl, rfl, rfl, rfl, rfl, rfl, rfl, rfl, rfl, rfl, rfl, rfl, rfl, rfl, rfl, rfl, rfl, hcls, hsup, hslt, hobj, hpar, hgen, htok, hbod, hspc, hunq⟩ := I
  have J : i_Rel (k + 9) (nI nc, nI ns, nI no, nI nd, x_state, x_stepCount, x_latestValue, x_enterGeneric, x_enterPlace, x_frameCount, x_operatorCount, x_valueCount, x_lineClass, x_lineLength, x_isSealed, x_classHasSlot, x_classSlot, x_superDraft, x_objectClass, x_objectHasSlot, x_objectSlot, x_parameterCount, x_methodGeneric, x_specialiser, x_tokenKind, x_tokenValue, x_tokenCount, x_argument, x_rank, x_orderPlace, x_frameMethod, x_framePlace, x_frameToken, x_frameOperators, x_frameArgument, x_operatorKind, x_operatorValue, x_operatorLeft, x_workedOut) (nI nc, nI ns, nI no, nI nd, y_depth, y_ops, y_held, y_fault, y_steps, x_stepCount, x_latestValue, x_lineClass, x_lineLength, y_has, x_isSealed, y_initial, x_superDraft, y_draftHas, y_draftInitial, y_lists, y_listLength, y_gone, x_objectClass, y_slots, x_parameterCount, x_methodGeneric, y_single, y_special, x_tokenKind, x_tokenCount, x_tokenValue, y_methodAt, y_pc, y_chosen, y_many, y_reached, y_opsAt, y_broken, y_arguments, y_operands, y_operator, y_got) := ⟨nc, no, ns, nd, rfl, rfl, rfl, rfl, rfl, rfl, rfl, rfl, rfl, rfl, rfl, rfl, rfl, rfl, rfl, rfl, rfl, rfl, rfl, rfl, hcls, hsup, hslt, hobj, hpar, hgen, htok, hbod, hspc, hunq⟩
  exact mx_classOf hobj.1 (my_classOf hobj.1 ⟨rfl, J⟩)
end
section
/-! slot, seal, line, remove, get -/
theorem ea_slt_j {nc c n : Nat} (hc : c < nc) (hn : n < 4) : 4 * c + n < 4 * nc := by omega
theorem ea_slt_s {nc : Nat} {CH CS HA IN DH DI : Nat → Int32} (h : rl_slt nc CH CS HA IN DH DI) {n : Nat} (hn : n < 4) (z : Int32) : rl_slt nc (upd CH (4 * nc + n) 1) (upd CS (4 * nc + n) z) HA IN (upd DH n 1) (upd DI n z) := by
  obtain ⟨h1, h2, h3, h4⟩ := h
  refine ⟨fun j => ?_, fun j hj => ?_, fun m hm => ?_, fun j hj => ?_⟩
  · by_cases e : j = 4 * nc + n
    · rw [e, pk_us]; exact Or.inr rfl
    · rw [pk_un e]; exact h1 j
  · rw [pk_un (f := CH) (by omega), pk_un (f := CS) (by omega)]; exact h2 j hj
  · by_cases e : m = n
    · rw [e, pk_us, pk_us, pk_us, pk_us]; exact ⟨rfl, fun _ => rfl⟩
    · rw [pk_un (f := DH) e, pk_un (f := DI) e, pk_un (f := CH) (by omega), pk_un (f := CS) (by omega)]; exact h3 m hm
  · rw [pk_un (by omega)]; exact h4 j hj
theorem ea_gen_r {MG : Nat → Int32} (h : rl_gen MG) (m : Nat) : rl_gen (upd MG m (-1)) := by
  intro j hj
  by_cases e : j = m
  · rw [e, pk_us]; exact Or.inl rfl
  · rw [pk_un e]; exact h j hj
theorem ea_bod_r {PC MG TK TV TC : Nat → Int32} (h : rl_bod PC MG TK TV TC) (m : Nat) : rl_bod PC (upd MG m (-1)) TK TV TC := by
  intro j g p t hj hg hp ht h1 h2 h3
  by_cases e : j = m
  · rw [e, pk_us] at h1; exact absurd h1.symm (bs_n1 (by omega))
  · rw [pk_un e] at h1; exact h j g p t hj hg hp ht h1 h2 h3
theorem ea_spc_r {nc no nd : Nat} {MG PC : Nat → Int32} {SP : Nat → Int64} {SI : Nat → Int32} {SG : Nat → Int64} (h : rl_spc nc no nd MG PC SP SI SG) (m : Nat) : rl_spc nc no nd (upd MG m (-1)) PC SP SI SG := by
  refine ⟨h.1, h.2.1, fun j g p hj hg hp h1 h2 => ?_⟩
  by_cases e : j = m
  · rw [e, pk_us] at h1; exact absurd h1.symm (bs_n1 (by omega))
  · rw [pk_un e] at h1; exact h.2.2 j g p hj hg hp h1 h2
theorem ea_unq_r {MG PC : Nat → Int32} {SP : Nat → Int64} (h : rl_unq MG PC SP) (m : Nat) : rl_unq (upd MG m (-1)) PC SP := by
  intro i j g p hi hj hg hp h1 h2 h3 h4
  by_cases e : i = m
  · rw [e, pk_us] at h1; exact absurd h1.symm (bs_n1 (by omega))
  · by_cases e2 : j = m
    · rw [e2, pk_us] at h2; exact absurd h2.symm (bs_n1 (by omega))
    · rw [pk_un e] at h1
      rw [pk_un e2] at h2
      exact h i j g p hi hj hg hp h1 h2 h3 h4
section
variable {x_classCount : Int32} {x_superCount : Int32} {x_objectCount : Int32} {x_draftSpecialCount : Int32} {x_state : Int32} {x_stepCount : Int32} {x_latestValue : Int64} {x_enterGeneric : Int32} {x_enterPlace : Int32} {x_frameCount : Int32} {x_operatorCount : Int32} {x_valueCount : Int32} {x_lineClass : Nat → Int32} {x_lineLength : Nat → Int32} {x_isSealed : Nat → Int32} {x_classHasSlot : Nat → Int32} {x_classSlot : Nat → Int32} {x_superDraft : Nat → Int32} {x_objectClass : Nat → Int32} {x_objectHasSlot : Nat → Int32} {x_objectSlot : Nat → Int64} {x_parameterCount : Nat → Int32} {x_methodGeneric : Nat → Int32} {x_specialiser : Nat → Int64} {x_tokenKind : Nat → Int32} {x_tokenValue : Nat → Int32} {x_tokenCount : Nat → Int32} {x_argument : Nat → Int64} {x_rank : Nat → Int32} {x_orderPlace : Nat → Int32} {x_frameMethod : Nat → Int32} {x_framePlace : Nat → Int32} {x_frameToken : Nat → Int32} {x_frameOperators : Nat → Int32} {x_frameArgument : Nat → Int64} {x_operatorKind : Nat → Int32} {x_operatorValue : Nat → Int32} {x_operatorLeft : Nat → Int32} {x_workedOut : Nat → Int64} {y_classes : Int32} {y_supers : Int32} {y_objects : Int32} {y_specials : Int32} {y_depth : Int32} {y_ops : Int32} {y_held : Int32} {y_fault : Int32} {y_steps : Int32} {y_shownSteps : Int32} {y_result : Int64} {y_line : Nat → Int32} {y_lineLength : Nat → Int32} {y_has : Nat → Int32} {y_sealed : Nat → Int32} {y_initial : Nat → Int32} {y_drafted : Nat → Int32} {y_draftHas : Nat → Int32} {y_draftInitial : Nat → Int32} {y_lists : Nat → Int32} {y_listLength : Nat → Int32} {y_gone : Nat → Int32} {y_classOfObject : Nat → Int32} {y_slots : Nat → Int64} {y_parameters : Nat → Int32} {y_generic : Nat → Int32} {y_single : Nat → Int32} {y_special : Nat → Int64} {y_kind : Nat → Int32} {y_tokens : Nat → Int32} {y_with : Nat → Int32} {y_methodAt : Nat → Int32} {y_pc : Nat → Int32} {y_chosen : Nat → Int32} {y_many : Nat → Int32} {y_reached : Nat → Int32} {y_opsAt : Nat → Int32} {y_broken : Nat → Int32} {y_arguments : Nat → Int64} {y_operands : Nat → Int64} {y_operator : Nat → Int32} {y_got : Nat → Int32}
theorem mx_isSlot_t {post : Int32 → Prop} {c : Nat} (h : c < 4) (hp : post 1) : wpX_isSlot post (x_classCount, x_superCount, x_objectCount, x_draftSpecialCount, x_state, x_stepCount, x_latestValue, x_enterGeneric, x_enterPlace, x_frameCount, x_operatorCount, x_valueCount, x_lineClass, x_lineLength, x_isSealed, x_classHasSlot, x_classSlot, x_superDraft, x_objectClass, x_objectHasSlot, x_objectSlot, x_parameterCount, x_methodGeneric, x_specialiser, x_tokenKind, x_tokenValue, x_tokenCount, x_argument, x_rank, x_orderPlace, x_frameMethod, x_framePlace, x_frameToken, x_frameOperators, x_frameArgument, x_operatorKind, x_operatorValue, x_operatorLeft, x_workedOut) (nI c) :=
  br_f (nI_pos (by omega)) (br_f (nI_ge (b := 4) h (by omega)) hp)
theorem mx_isSlot_f {post : Int32 → Prop} {p : Int32} (h : p < 0 ∨ (¬ p < 0 ∧ nI 4 ≤ p)) (hp : post 0) : wpX_isSlot post (x_classCount, x_superCount, x_objectCount, x_draftSpecialCount, x_state, x_stepCount, x_latestValue, x_enterGeneric, x_enterPlace, x_frameCount, x_operatorCount, x_valueCount, x_lineClass, x_lineLength, x_isSealed, x_classHasSlot, x_classSlot, x_superDraft, x_objectClass, x_objectHasSlot, x_objectSlot, x_parameterCount, x_methodGeneric, x_specialiser, x_tokenKind, x_tokenValue, x_tokenCount, x_argument, x_rank, x_orderPlace, x_frameMethod, x_framePlace, x_frameToken, x_frameOperators, x_frameArgument, x_operatorKind, x_operatorValue, x_operatorLeft, x_workedOut) p := by
  rcases h with h | ⟨h1, h2⟩
  · exact br_t h hp
  · exact br_f h1 (br_t h2 hp)
theorem mx_isGeneric_t {post : Int32 → Prop} {c : Nat} (h : c < 5) (hp : post 1) : wpX_isGeneric post (x_classCount, x_superCount, x_objectCount, x_draftSpecialCount, x_state, x_stepCount, x_latestValue, x_enterGeneric, x_enterPlace, x_frameCount, x_operatorCount, x_valueCount, x_lineClass, x_lineLength, x_isSealed, x_classHasSlot, x_classSlot, x_superDraft, x_objectClass, x_objectHasSlot, x_objectSlot, x_parameterCount, x_methodGeneric, x_specialiser, x_tokenKind, x_tokenValue, x_tokenCount, x_argument, x_rank, x_orderPlace, x_frameMethod, x_framePlace, x_frameToken, x_frameOperators, x_frameArgument, x_operatorKind, x_operatorValue, x_operatorLeft, x_workedOut) (nI c) :=
  br_f (nI_pos (by omega)) (br_f (nI_ge (b := 5) h (by omega)) hp)
theorem mx_isGeneric_f {post : Int32 → Prop} {p : Int32} (h : p < 0 ∨ (¬ p < 0 ∧ nI 5 ≤ p)) (hp : post 0) : wpX_isGeneric post (x_classCount, x_superCount, x_objectCount, x_draftSpecialCount, x_state, x_stepCount, x_latestValue, x_enterGeneric, x_enterPlace, x_frameCount, x_operatorCount, x_valueCount, x_lineClass, x_lineLength, x_isSealed, x_classHasSlot, x_classSlot, x_superDraft, x_objectClass, x_objectHasSlot, x_objectSlot, x_parameterCount, x_methodGeneric, x_specialiser, x_tokenKind, x_tokenValue, x_tokenCount, x_argument, x_rank, x_orderPlace, x_frameMethod, x_framePlace, x_frameToken, x_frameOperators, x_frameArgument, x_operatorKind, x_operatorValue, x_operatorLeft, x_workedOut) p := by
  rcases h with h | ⟨h1, h2⟩
  · exact br_t h hp
  · exact br_f h1 (br_t h2 hp)
end
theorem i_vc_slot {k : Nat} {u : SX} {v : SY} (I : i_Rel k u v) (hk : k + 9 ≤ 4608) (v1 : Int32) (v2 : Int32) : wpX_slot (fun r u' => wpY_slot (fun r' v' => r' = r ∧ i_Rel (k + 9) u' v') v v1 v2) u v1 v2 := by
  obtain ⟨x_classCount, x_superCount, x_objectCount, x_draftSpecialCount, x_state, x_stepCount, x_latestValue, x_enterGeneric, x_enterPlace, x_frameCount, x_operatorCount, x_valueCount, x_lineClass, x_lineLength, x_isSealed, x_classHasSlot, x_classSlot, x_superDraft, x_objectClass, x_objectHasSlot, x_objectSlot, x_parameterCount, x_methodGeneric, x_specialiser, x_tokenKind, x_tokenValue, x_tokenCount, x_argument, x_rank, x_orderPlace, x_frameMethod, x_framePlace, x_frameToken, x_frameOperators, x_frameArgument, x_operatorKind, x_operatorValue, x_operatorLeft, x_workedOut⟩ := u
  obtain ⟨y_classes, y_supers, y_objects, y_specials, y_depth, y_ops, y_held, y_fault, y_steps, y_shownSteps, y_result, y_line, y_lineLength, y_has, y_sealed, y_initial, y_drafted, y_draftHas, y_draftInitial, y_lists, y_listLength, y_gone, y_classOfObject, y_slots, y_parameters, y_generic, y_single, y_special, y_kind, y_tokens, y_with, y_methodAt, y_pc, y_chosen, y_many, y_reached, y_opsAt, y_broken, y_arguments, y_operands, y_operator, y_got⟩ := v
  obtain ⟨nc, no, ns, nd, rfl, rfl, rfl, rfl, rfl, rfl, rfl, rfl, rfl, rfl, rfl, rfl, rfl, rfl, rfl, rfl, rfl, rfl, rfl, rfl, hcls, hsup, hslt, hobj, hpar, hgen, htok, hbod, hspc, hunq⟩ := I
  have J : i_Rel (k + 9) (nI nc, nI ns, nI no, nI nd, x_state, x_stepCount, x_latestValue, x_enterGeneric, x_enterPlace, x_frameCount, x_operatorCount, x_valueCount, x_lineClass, x_lineLength, x_isSealed, x_classHasSlot, x_classSlot, x_superDraft, x_objectClass, x_objectHasSlot, x_objectSlot, x_parameterCount, x_methodGeneric, x_specialiser, x_tokenKind, x_tokenValue, x_tokenCount, x_argument, x_rank, x_orderPlace, x_frameMethod, x_framePlace, x_frameToken, x_frameOperators, x_frameArgument, x_operatorKind, x_operatorValue, x_operatorLeft, x_workedOut) (nI nc, nI ns, nI no, nI nd, y_depth, y_ops, y_held, y_fault, y_steps, x_stepCount, x_latestValue, x_lineClass, x_lineLength, y_has, x_isSealed, y_initial, x_superDraft, y_draftHas, y_draftInitial, y_lists, y_listLength, y_gone, x_objectClass, y_slots, x_parameterCount, x_methodGeneric, y_single, y_special, x_tokenKind, x_tokenCount, x_tokenValue, y_methodAt, y_pc, y_chosen, y_many, y_reached, y_opsAt, y_broken, y_arguments, y_operands, y_operator, y_got) := ⟨nc, no, ns, nd, rfl, rfl, rfl, rfl, rfl, rfl, rfl, rfl, rfl, rfl, rfl, rfl, rfl, rfl, rfl, rfl, rfl, rfl, rfl, rfl, hcls, hsup, hslt, hobj, hpar, hgen, htok, hbod, hspc, hunq⟩
  have hn : nc ≤ 16 := hcls.2.1
  unfold wpX_slot
  rcases bs_ar2 v1 (n := 4) (by omega) with h | ⟨n, hn4, rfl⟩
  · intro x3 _
    refine mx_isSlot_f h (br_t rfl ?_)
    unfold wpY_slot
    exact my_out_f (q := 4) h (br_f (by decide) ⟨rfl, J⟩)
  · refine nm_r (bs_xi 4 nc n) ?_
    refine mx_isSlot_t hn4 (br_f (by decide) ⟨pk_in (4 * nc + n) 68 (by omega), ?_⟩)
    rw [bs_clk (n := 4 * nc + n) (by omega)]
    have hd := hslt.2.2.1 n hn4
    unfold wpY_slot
    refine br_c (fun e => ⟨pk_in (4 * nc + n) 68 (by omega), nm_r (congrArg (upd _ _) bs_z1) ⟨pk_in (4 * nc + n) 68 (by omega), nm_e ?_⟩⟩) (fun e => ?_)
    · refine my_out_t (n := 4) hn4 (by omega) (br_t rfl ⟨pk_in n 4 hn4, ?_⟩)
      rw [bs_clk (n := n) (by omega), hd.1]
      refine br_t e ⟨pk_in n 4 hn4, nm_r (congrArg (upd _ _) bs_z1) ⟨pk_in n 4 hn4, nm_e ⟨rfl, ?_⟩⟩⟩
      exact ⟨nc, no, ns, nd, rfl, rfl, rfl, rfl, rfl, rfl, rfl, rfl, rfl, rfl, rfl, rfl, rfl, rfl, rfl, rfl, rfl, rfl, rfl, rfl, hcls, hsup, ea_slt_s hslt hn4 v2, hobj, hpar, hgen, htok, hbod, hspc, hunq⟩
    · refine my_out_t (n := 4) hn4 (by omega) (br_t rfl ⟨pk_in n 4 hn4, ?_⟩)
      rw [bs_clk (n := n) (by omega), hd.1]
      exact br_f e ⟨rfl, J⟩
theorem i_vc_seal {k : Nat} {u : SX} {v : SY} (I : i_Rel k u v) (hk : k + 9 ≤ 4608) (v1 : Int32) : wpX_seal (fun r u' => wpY_seal (fun r' v' => r' = r ∧ i_Rel (k + 9) u' v') v v1) u v1 := by
  obtain ⟨x_classCount, x_superCount, x_objectCount, x_draftSpecialCount, x_state, x_stepCount, x_latestValue, x_enterGeneric, x_enterPlace, x_frameCount, x_operatorCount, x_valueCount, x_lineClass, x_lineLength, x_isSealed, x_classHasSlot, x_classSlot, x_superDraft, x_objectClass, x_objectHasSlot, x_objectSlot, x_parameterCount, x_methodGeneric, x_specialiser, x_tokenKind, x_tokenValue, x_tokenCount, x_argument, x_rank, x_orderPlace, x_frameMethod, x_framePlace, x_frameToken, x_frameOperators, x_frameArgument, x_operatorKind, x_operatorValue, x_operatorLeft, x_workedOut⟩ := u
  obtain ⟨y_classes, y_supers, y_objects, y_specials, y_depth, y_ops, y_held, y_fault, y_steps, y_shownSteps, y_result, y_line, y_lineLength, y_has, y_sealed, y_initial, y_drafted, y_draftHas, y_draftInitial, y_lists, y_listLength, y_gone, y_classOfObject, y_slots, y_parameters, y_generic, y_single, y_special, y_kind, y_tokens, y_with, y_methodAt, y_pc, y_chosen, y_many, y_reached, y_opsAt, y_broken, y_arguments, y_operands, y_operator, y_got⟩ := v
  obtain ⟨nc, no, ns, nd, rfl, rfl, rfl, rfl, rfl, rfl, rfl, rfl, rfl, rfl, rfl, rfl, rfl, rfl, rfl, rfl, rfl, rfl, rfl, rfl, hcls, hsup, hslt, hobj, hpar, hgen, htok, hbod, hspc, hunq⟩ := I
  have J : i_Rel (k + 9) (nI nc, nI ns, nI no, nI nd, x_state, x_stepCount, x_latestValue, x_enterGeneric, x_enterPlace, x_frameCount, x_operatorCount, x_valueCount, x_lineClass, x_lineLength, x_isSealed, x_classHasSlot, x_classSlot, x_superDraft, x_objectClass, x_objectHasSlot, x_objectSlot, x_parameterCount, x_methodGeneric, x_specialiser, x_tokenKind, x_tokenValue, x_tokenCount, x_argument, x_rank, x_orderPlace, x_frameMethod, x_framePlace, x_frameToken, x_frameOperators, x_frameArgument, x_operatorKind, x_operatorValue, x_operatorLeft, x_workedOut) (nI nc, nI ns, nI no, nI nd, y_depth, y_ops, y_held, y_fault, y_steps, x_stepCount, x_latestValue, x_lineClass, x_lineLength, y_has, x_isSealed, y_initial, x_superDraft, y_draftHas, y_draftInitial, y_lists, y_listLength, y_gone, x_objectClass, y_slots, x_parameterCount, x_methodGeneric, y_single, y_special, x_tokenKind, x_tokenCount, x_tokenValue, y_methodAt, y_pc, y_chosen, y_many, y_reached, y_opsAt, y_broken, y_arguments, y_operands, y_operator, y_got) := ⟨nc, no, ns, nd, rfl, rfl, rfl, rfl, rfl, rfl, rfl, rfl, rfl, rfl, rfl, rfl, rfl, rfl, rfl, rfl, rfl, rfl, rfl, rfl, hcls, hsup, hslt, hobj, hpar, hgen, htok, hbod, hspc, hunq⟩
  have hn : nc ≤ 16 := hcls.2.1
  unfold wpX_seal
  unfold wpY_seal
  rcases bs_ar2 v1 (n := nc) (by omega) with h | ⟨c, hc, rfl⟩
  · exact mx_isClass_f h (br_t rfl (my_out_f h (br_f (by decide) ⟨rfl, J⟩)))
  · refine mx_isClass_t hc hn (br_f (by decide) ⟨pk_in c 16 (by omega), ?_⟩)
    refine br_c (fun e => ⟨pk_in c 16 (by omega), nm_e ?_⟩) (fun e => ?_)
    · refine my_out_t hc (by omega) (br_t rfl ⟨pk_in c 16 (by omega), br_t e ⟨pk_in c 16 (by omega), nm_e ⟨rfl, ?_⟩⟩⟩)
      exact ⟨nc, no, ns, nd, rfl, rfl, rfl, rfl, rfl, rfl, rfl, rfl, rfl, rfl, rfl, rfl, rfl, rfl, rfl, rfl, rfl, rfl, rfl, rfl, hcls, hsup, hslt, hobj, hpar, hgen, htok, hbod, hspc, hunq⟩
    · exact my_out_t hc (by omega) (br_t rfl ⟨pk_in c 16 (by omega), br_f e ⟨rfl, J⟩⟩)
theorem i_vc_line {k : Nat} {u : SX} {v : SY} (I : i_Rel k u v) (hk : k + 9 ≤ 4608) (v1 : Int32) (v2 : Int32) : wpX_line (fun r => wpY_line (fun r' => r' = r ∧ i_Rel (k + 9) u v) v v1 v2) u v1 v2 := by
  obtain ⟨x_classCount, x_superCount, x_objectCount, x_draftSpecialCount, x_state, x_stepCount, x_latestValue, x_enterGeneric, x_enterPlace, x_frameCount, x_operatorCount, x_valueCount, x_lineClass, x_lineLength, x_isSealed, x_classHasSlot, x_classSlot, x_superDraft, x_objectClass, x_objectHasSlot, x_objectSlot, x_parameterCount, x_methodGeneric, x_specialiser, x_tokenKind, x_tokenValue, x_tokenCount, x_argument, x_rank, x_orderPlace, x_frameMethod, x_framePlace, x_frameToken, x_frameOperators, x_frameArgument, x_operatorKind, x_operatorValue, x_operatorLeft, x_workedOut⟩ := u
  obtain ⟨y_classes, y_supers, y_objects, y_specials, y_depth, y_ops, y_held, y_fault, y_steps, y_shownSteps, y_result, y_line, y_lineLength, y_has, y_sealed, y_initial, y_drafted, y_draftHas, y_draftInitial, y_lists, y_listLength, y_gone, y_classOfObject, y_slots, y_parameters, y_generic, y_single, y_special, y_kind, y_tokens, y_with, y_methodAt, y_pc, y_chosen, y_many, y_reached, y_opsAt, y_broken, y_arguments, y_operands, y_operator, y_got⟩ := v
  obtain ⟨nc, no, ns, nd, rfl, rfl, rfl, rfl, rfl, rfl, rfl, rfl, rfl, rfl, rfl, rfl, rfl, rfl, rfl, rfl, rfl, rfl, rfl, rfl, hcls, hsup, hslt, hobj, hpar, hgen, htok, hbod, hspc, hunq⟩ := I
  have J : i_Rel (k + 9) (nI nc, nI ns, nI no, nI nd, x_state, x_stepCount, x_latestValue, x_enterGeneric, x_enterPlace, x_frameCount, x_operatorCount, x_valueCount, x_lineClass, x_lineLength, x_isSealed, x_classHasSlot, x_classSlot, x_superDraft, x_objectClass, x_objectHasSlot, x_objectSlot, x_parameterCount, x_methodGeneric, x_specialiser, x_tokenKind, x_tokenValue, x_tokenCount, x_argument, x_rank, x_orderPlace, x_frameMethod, x_framePlace, x_frameToken, x_frameOperators, x_frameArgument, x_operatorKind, x_operatorValue, x_operatorLeft, x_workedOut) (nI nc, nI ns, nI no, nI nd, y_depth, y_ops, y_held, y_fault, y_steps, x_stepCount, x_latestValue, x_lineClass, x_lineLength, y_has, x_isSealed, y_initial, x_superDraft, y_draftHas, y_draftInitial, y_lists, y_listLength, y_gone, x_objectClass, y_slots, x_parameterCount, x_methodGeneric, y_single, y_special, x_tokenKind, x_tokenCount, x_tokenValue, y_methodAt, y_pc, y_chosen, y_many, y_reached, y_opsAt, y_broken, y_arguments, y_operands, y_operator, y_got) := ⟨nc, no, ns, nd, rfl, rfl, rfl, rfl, rfl, rfl, rfl, rfl, rfl, rfl, rfl, rfl, rfl, rfl, rfl, rfl, rfl, rfl, rfl, rfl, hcls, hsup, hslt, hobj, hpar, hgen, htok, hbod, hspc, hunq⟩
  have hn : nc ≤ 16 := hcls.2.1
  unfold wpX_line
  rcases bs_ar2 v1 (n := nc) (by omega) with h | ⟨c, hc, rfl⟩
  · refine mx_isClass_f h (br_t rfl ?_)
    unfold wpY_line
    exact my_out_f h (br_f (by decide) ⟨rfl, J⟩)
  · refine mx_isClass_t hc hn (br_f (by decide) ?_)
    obtain ⟨l, hl, el, _⟩ := hcls.2.2 c hc
    have ec : x_lineLength (nI c).toNatClampNeg = nI l := by rw [bs_clk (by omega)]; exact el
    rcases bs_ar2 v2 (n := l) (by omega) with h | ⟨i, hi, rfl⟩
    · have fin : wpY_line (fun r' => r' = (-1 : Int32) ∧ i_Rel (k + 9) (nI nc, nI ns, nI no, nI nd, x_state, x_stepCount, x_latestValue, x_enterGeneric, x_enterPlace, x_frameCount, x_operatorCount, x_valueCount, x_lineClass, x_lineLength, x_isSealed, x_classHasSlot, x_classSlot, x_superDraft, x_objectClass, x_objectHasSlot, x_objectSlot, x_parameterCount, x_methodGeneric, x_specialiser, x_tokenKind, x_tokenValue, x_tokenCount, x_argument, x_rank, x_orderPlace, x_frameMethod, x_framePlace, x_frameToken, x_frameOperators, x_frameArgument, x_operatorKind, x_operatorValue, x_operatorLeft, x_workedOut) (nI nc, nI ns, nI no, nI nd, y_depth, y_ops, y_held, y_fault, y_steps, x_stepCount, x_latestValue, x_lineClass, x_lineLength, y_has, x_isSealed, y_initial, x_superDraft, y_draftHas, y_draftInitial, y_lists, y_listLength, y_gone, x_objectClass, y_slots, x_parameterCount, x_methodGeneric, y_single, y_special, x_tokenKind, x_tokenCount, x_tokenValue, y_methodAt, y_pc, y_chosen, y_many, y_reached, y_opsAt, y_broken, y_arguments, y_operands, y_operator, y_got)) (nI nc, nI ns, nI no, nI nd, y_depth, y_ops, y_held, y_fault, y_steps, x_stepCount, x_latestValue, x_lineClass, x_lineLength, y_has, x_isSealed, y_initial, x_superDraft, y_draftHas, y_draftInitial, y_lists, y_listLength, y_gone, x_objectClass, y_slots, x_parameterCount, x_methodGeneric, y_single, y_special, x_tokenKind, x_tokenCount, x_tokenValue, y_methodAt, y_pc, y_chosen, y_many, y_reached, y_opsAt, y_broken, y_arguments, y_operands, y_operator, y_got) (nI c) v2 := by
        unfold wpY_line
        refine my_out_t hc (by omega) (br_t rfl ⟨pk_in c 16 (by omega), ?_⟩)
        rw [ec]
        exact my_out_f h (br_f (by decide) ⟨rfl, J⟩)
      rcases h with h | ⟨h1, h2⟩
      · exact br_t h fin
      · refine br_f h1 ⟨pk_in c 16 (by omega), ?_⟩
        rw [ec]
        exact br_f (fun z => absurd z (Int32.not_lt.mpr h2)) fin
    · refine br_f (nI_pos (by omega)) ⟨pk_in c 16 (by omega), ?_⟩
      rw [ec]
      refine br_t (nI_lt hi (by omega)) ⟨pk_in (16 * c + i) 256 (by omega) (bs_xi 16 c i), ?_⟩
      unfold wpY_line
      refine my_out_t hc (by omega) (br_t rfl ⟨pk_in c 16 (by omega), ?_⟩)
      rw [ec]
      refine my_out_t hi (by omega) (br_t rfl ⟨pk_in (16 * c + i) 256 (by omega) (bs_ix 16 c i), ?_, J⟩)
      rw [bs_xi 16 c i, bs_ix 16 c i]
theorem i_vc_remove {k : Nat} {u : SX} {v : SY} (I : i_Rel k u v) (hk : k + 9 ≤ 4608) (v1 : Int32) : wpX_remove (fun r u' => wpY_remove (fun r' v' => r' = r ∧ i_Rel (k + 9) u' v') v v1) u v1 := by
  obtain ⟨x_classCount, x_superCount, x_objectCount, x_draftSpecialCount, x_state, x_stepCount, x_latestValue, x_enterGeneric, x_enterPlace, x_frameCount, x_operatorCount, x_valueCount, x_lineClass, x_lineLength, x_isSealed, x_classHasSlot, x_classSlot, x_superDraft, x_objectClass, x_objectHasSlot, x_objectSlot, x_parameterCount, x_methodGeneric, x_specialiser, x_tokenKind, x_tokenValue, x_tokenCount, x_argument, x_rank, x_orderPlace, x_frameMethod, x_framePlace, x_frameToken, x_frameOperators, x_frameArgument, x_operatorKind, x_operatorValue, x_operatorLeft, x_workedOut⟩ := u
  obtain ⟨y_classes, y_supers, y_objects, y_specials, y_depth, y_ops, y_held, y_fault, y_steps, y_shownSteps, y_result, y_line, y_lineLength, y_has, y_sealed, y_initial, y_drafted, y_draftHas, y_draftInitial, y_lists, y_listLength, y_gone, y_classOfObject, y_slots, y_parameters, y_generic, y_single, y_special, y_kind, y_tokens, y_with, y_methodAt, y_pc, y_chosen, y_many, y_reached, y_opsAt, y_broken, y_arguments, y_operands, y_operator, y_got⟩ := v
  obtain ⟨nc, no, ns, nd, rfl, rfl, rfl, rfl, rfl, rfl, rfl, rfl, rfl, rfl, rfl, rfl, rfl, rfl, rfl, rfl, rfl, rfl, rfl, rfl, hcls, hsup, hslt, hobj, hpar, hgen, htok, hbod, hspc, hunq⟩ := I
  have J : i_Rel (k + 9) (nI nc, nI ns, nI no, nI nd, x_state, x_stepCount, x_latestValue, x_enterGeneric, x_enterPlace, x_frameCount, x_operatorCount, x_valueCount, x_lineClass, x_lineLength, x_isSealed, x_classHasSlot, x_classSlot, x_superDraft, x_objectClass, x_objectHasSlot, x_objectSlot, x_parameterCount, x_methodGeneric, x_specialiser, x_tokenKind, x_tokenValue, x_tokenCount, x_argument, x_rank, x_orderPlace, x_frameMethod, x_framePlace, x_frameToken, x_frameOperators, x_frameArgument, x_operatorKind, x_operatorValue, x_operatorLeft, x_workedOut) (nI nc, nI ns, nI no, nI nd, y_depth, y_ops, y_held, y_fault, y_steps, x_stepCount, x_latestValue, x_lineClass, x_lineLength, y_has, x_isSealed, y_initial, x_superDraft, y_draftHas, y_draftInitial, y_lists, y_listLength, y_gone, x_objectClass, y_slots, x_parameterCount, x_methodGeneric, y_single, y_special, x_tokenKind, x_tokenCount, x_tokenValue, y_methodAt, y_pc, y_chosen, y_many, y_reached, y_opsAt, y_broken, y_arguments, y_operands, y_operator, y_got) := ⟨nc, no, ns, nd, rfl, rfl, rfl, rfl, rfl, rfl, rfl, rfl, rfl, rfl, rfl, rfl, rfl, rfl, rfl, rfl, rfl, rfl, rfl, rfl, hcls, hsup, hslt, hobj, hpar, hgen, htok, hbod, hspc, hunq⟩
  unfold wpX_remove
  unfold wpY_remove
  rcases bs_ar2 v1 (n := 24) (by omega) with h | ⟨m, hm, rfl⟩
  · rcases h with h | ⟨h1, h2⟩
    · exact br_t h (my_out_f (q := 24) (Or.inl h) (br_f (by decide) ⟨rfl, J⟩))
    · exact br_f h1 (br_t h2 (my_out_f (q := 24) (Or.inr ⟨h1, h2⟩) (br_f (by decide) ⟨rfl, J⟩)))
  · refine br_f (nI_pos (by omega)) (br_f (nI_ge (b := 24) hm (by omega)) ⟨pk_in m 24 hm, ?_⟩)
    rw [bs_clk (n := m) (by omega)]
    rcases hgen m hm with e | ⟨g, hg, e⟩
    · refine br_t e (my_out_t (n := 24) hm (by omega) (br_t rfl ⟨pk_in m 24 hm, ?_⟩))
      rw [e]
      exact br_f (by decide) ⟨rfl, J⟩
    · refine br_f (by rw [e]; exact bs_n1 (by omega)) ⟨pk_in m 24 hm, nm_e ?_⟩
      refine my_out_t (n := 24) hm (by omega) (br_t rfl ⟨pk_in m 24 hm, ?_⟩)
      rw [e]
      refine br_t (bs_ge0 (by omega)) ⟨pk_in m 24 hm, nm_r (congrArg (upd _ _) bs_vm1) ⟨rfl, ?_⟩⟩
      exact ⟨nc, no, ns, nd, rfl, rfl, rfl, rfl, rfl, rfl, rfl, rfl, rfl, rfl, rfl, rfl, rfl, rfl, rfl, rfl, rfl, rfl, rfl, rfl, hcls, hsup, hslt, hobj, hpar, ea_gen_r hgen m, htok, ea_bod_r hbod m, ea_spc_r hspc m, ea_unq_r hunq m⟩
theorem i_vc_get {k : Nat} {u : SX} {v : SY} (I : i_Rel k u v) (hk : k + 9 ≤ 4608) (v1 : Int32) (v2 : Int32) : wpX_get (fun r => wpY_get (fun r' => r' = r ∧ i_Rel (k + 9) u v) v v1 v2) u v1 v2 := by
  obtain ⟨x_classCount, x_superCount, x_objectCount, x_draftSpecialCount, x_state, x_stepCount, x_latestValue, x_enterGeneric, x_enterPlace, x_frameCount, x_operatorCount, x_valueCount, x_lineClass, x_lineLength, x_isSealed, x_classHasSlot, x_classSlot, x_superDraft, x_objectClass, x_objectHasSlot, x_objectSlot, x_parameterCount, x_methodGeneric, x_specialiser, x_tokenKind, x_tokenValue, x_tokenCount, x_argument, x_rank, x_orderPlace, x_frameMethod, x_framePlace, x_frameToken, x_frameOperators, x_frameArgument, x_operatorKind, x_operatorValue, x_operatorLeft, x_workedOut⟩ := u
  obtain ⟨y_classes, y_supers, y_objects, y_specials, y_depth, y_ops, y_held, y_fault, y_steps, y_shownSteps, y_result, y_line, y_lineLength, y_has, y_sealed, y_initial, y_drafted, y_draftHas, y_draftInitial, y_lists, y_listLength, y_gone, y_classOfObject, y_slots, y_parameters, y_generic, y_single, y_special, y_kind, y_tokens, y_with, y_methodAt, y_pc, y_chosen, y_many, y_reached, y_opsAt, y_broken, y_arguments, y_operands, y_operator, y_got⟩ := v
  obtain ⟨nc, no, ns, nd, rfl, rfl, rfl, rfl, rfl, rfl, rfl, rfl, rfl, rfl, rfl, rfl, rfl, rfl, rfl, rfl, rfl, rfl, rfl, rfl, hcls, hsup, hslt, hobj, hpar, hgen, htok, hbod, hspc, hunq⟩ := I
  have J : i_Rel (k + 9) (nI nc, nI ns, nI no, nI nd, x_state, x_stepCount, x_latestValue, x_enterGeneric, x_enterPlace, x_frameCount, x_operatorCount, x_valueCount, x_lineClass, x_lineLength, x_isSealed, x_classHasSlot, x_classSlot, x_superDraft, x_objectClass, x_objectHasSlot, x_objectSlot, x_parameterCount, x_methodGeneric, x_specialiser, x_tokenKind, x_tokenValue, x_tokenCount, x_argument, x_rank, x_orderPlace, x_frameMethod, x_framePlace, x_frameToken, x_frameOperators, x_frameArgument, x_operatorKind, x_operatorValue, x_operatorLeft, x_workedOut) (nI nc, nI ns, nI no, nI nd, y_depth, y_ops, y_held, y_fault, y_steps, x_stepCount, x_latestValue, x_lineClass, x_lineLength, y_has, x_isSealed, y_initial, x_superDraft, y_draftHas, y_draftInitial, y_lists, y_listLength, y_gone, x_objectClass, y_slots, x_parameterCount, x_methodGeneric, y_single, y_special, x_tokenKind, x_tokenCount, x_tokenValue, y_methodAt, y_pc, y_chosen, y_many, y_reached, y_opsAt, y_broken, y_arguments, y_operands, y_operator, y_got) := ⟨nc, no, ns, nd, rfl, rfl, rfl, rfl, rfl, rfl, rfl, rfl, rfl, rfl, rfl, rfl, rfl, rfl, rfl, rfl, rfl, rfl, rfl, rfl, hcls, hsup, hslt, hobj, hpar, hgen, htok, hbod, hspc, hunq⟩
  have hno := hobj.1
  unfold wpX_get
  unfold wpY_get
  rcases bs_ar2 v1 (n := no) (by omega) with h | ⟨q, hq, rfl⟩
  · rcases h with h | ⟨h1, h2⟩
    · exact br_t h (my_out_f (Or.inl h) (br_f (by decide) ⟨rfl, J⟩))
    · exact br_f h1 (br_t h2 (my_out_f (Or.inr ⟨h1, h2⟩) (br_f (by decide) ⟨rfl, J⟩)))
  · refine br_f (nI_pos (by omega)) (br_f (nI_ge hq (by omega)) ?_)
    rcases bs_ar2 v2 (n := 4) (by omega) with h | ⟨n, hn4, rfl⟩
    · exact mx_isSlot_f h (br_t rfl (my_out_t hq (by omega) (br_t rfl (my_out_f (q := 4) h (br_f (by decide) ⟨rfl, J⟩)))))
    · refine mx_isSlot_t hn4 (br_f (by decide) ⟨pk_in (4 * q + n) 80 (by omega) (bs_xi 4 q n), ?_⟩)
      rw [bs_xi 4 q n, bs_clk (n := 4 * q + n) (by omega)]
      rcases hobj.2.2 (4 * q + n) (by omega) with ⟨e1, e2⟩ | ⟨e1, e2, _⟩
      · refine br_t e1 (my_out_t hq (by omega) (br_t rfl (my_out_t (n := 4) hn4 (by omega) (br_t rfl ⟨pk_in (4 * q + n) 80 (by omega) (bs_ix 4 q n), ?_, J⟩))))
        rw [bs_ix 4 q n, bs_clk (n := 4 * q + n) (by omega), e2]
      · refine br_f (by rw [e1]; decide) ⟨pk_in (4 * q + n) 80 (by omega), my_out_t hq (by omega) (br_t rfl (my_out_t (n := 4) hn4 (by omega) (br_t rfl ⟨pk_in (4 * q + n) 80 (by omega) (bs_ix 4 q n), ?_, J⟩)))⟩
        rw [bs_ix 4 q n, bs_clk (n := 4 * q + n) (by omega), e2]
end
section
/-! special, token -/
theorem ea_pn_c {A B : Nat → Nat} : ∀ (d pc k : Nat), (∀ i, pc ≤ i → i < pc + d → A i = B i) → rl_pn A d pc k → rl_pn B d pc k := by
  intro d
  induction d with
  | zero => exact fun _ _ _ h => h
  | succ d ih =>
    rintro pc k h ⟨k', e, hp⟩
    refine ⟨k', e, ?_⟩
    rw [← h pc (Nat.le_refl _) (by omega)]
    exact ih (pc + 1) _ (fun i h1 h2 => h i (by omega) (by omega)) hp
theorem ea_bod_c {PC MG TK TV TC TK' TV' TC' : Nat → Int32} (h : rl_bod PC MG TK TV TC) (hc : ∀ m g, m < 24 → g < 5 → MG m = nI g → TC' m = TC m ∧ ∀ i, i < 16 → TK' (16 * m + i) = TK (16 * m + i) ∧ TV' (16 * m + i) = TV (16 * m + i)) : rl_bod PC MG TK' TV' TC' := by
  intro m g p t hm hg hp ht h1 h2 h3
  obtain ⟨c1, c2⟩ := hc m g hm hg h1
  rw [c1] at h3
  obtain ⟨b1, b2⟩ := h m g p t hm hg hp ht h1 h2 h3
  refine ⟨fun i hi hk => ?_, ?_⟩
  · rw [(c2 i (by omega)).1] at hk
    rw [(c2 i (by omega)).2]
    exact b1 i hi hk
  · refine ea_pn_c t 0 1 (fun i _ hi => ?_) b2
    unfold rl_am
    rw [(c2 i (by omega)).1, (c2 i (by omega)).2]
theorem ea_tok_d {nc t : Nat} {TK TV TC : Nat → Int32} (h : rl_tok nc TK TV TC) (ht : t < 16) (et : TC 24 = nI t) {k v : Int32} (hk : rl_tk nc k v) : rl_tok nc (upd TK (384 + t) k) (upd TV (384 + t) v) (upd TC 24 (nI (t + 1))) := by
  intro m hm
  by_cases e : m = 24
  · rw [e, pk_us]
    refine ⟨t + 1, by omega, rfl, fun i hi => ?_⟩
    by_cases e2 : i = t
    · rw [e2, show 16 * 24 + t = 384 + t from rfl, pk_us, pk_us]; exact hk
    · rw [pk_un (f := TK) (by omega), pk_un (f := TV) (by omega)]
      obtain ⟨t', h1, h2, h3⟩ := h 24 (by omega)
      rw [et] at h2
      have := bs_inj (by omega) (by omega) h2
      exact h3 i (by omega)
  · rw [pk_un e]
    obtain ⟨t', h1, h2, h3⟩ := h m hm
    refine ⟨t', h1, h2, fun i hi => ?_⟩
    rw [pk_un (f := TK) (by omega), pk_un (f := TV) (by omega)]
    exact h3 i hi
section
variable {x_classCount : Int32} {x_superCount : Int32} {x_objectCount : Int32} {x_draftSpecialCount : Int32} {x_state : Int32} {x_stepCount : Int32} {x_latestValue : Int64} {x_enterGeneric : Int32} {x_enterPlace : Int32} {x_frameCount : Int32} {x_operatorCount : Int32} {x_valueCount : Int32} {x_lineClass : Nat → Int32} {x_lineLength : Nat → Int32} {x_isSealed : Nat → Int32} {x_classHasSlot : Nat → Int32} {x_classSlot : Nat → Int32} {x_superDraft : Nat → Int32} {x_objectClass : Nat → Int32} {x_objectHasSlot : Nat → Int32} {x_objectSlot : Nat → Int64} {x_parameterCount : Nat → Int32} {x_methodGeneric : Nat → Int32} {x_specialiser : Nat → Int64} {x_tokenKind : Nat → Int32} {x_tokenValue : Nat → Int32} {x_tokenCount : Nat → Int32} {x_argument : Nat → Int64} {x_rank : Nat → Int32} {x_orderPlace : Nat → Int32} {x_frameMethod : Nat → Int32} {x_framePlace : Nat → Int32} {x_frameToken : Nat → Int32} {x_frameOperators : Nat → Int32} {x_frameArgument : Nat → Int64} {x_operatorKind : Nat → Int32} {x_operatorValue : Nat → Int32} {x_operatorLeft : Nat → Int32} {x_workedOut : Nat → Int64} {y_classes : Int32} {y_supers : Int32} {y_objects : Int32} {y_specials : Int32} {y_depth : Int32} {y_ops : Int32} {y_held : Int32} {y_fault : Int32} {y_steps : Int32} {y_shownSteps : Int32} {y_result : Int64} {y_line : Nat → Int32} {y_lineLength : Nat → Int32} {y_has : Nat → Int32} {y_sealed : Nat → Int32} {y_initial : Nat → Int32} {y_drafted : Nat → Int32} {y_draftHas : Nat → Int32} {y_draftInitial : Nat → Int32} {y_lists : Nat → Int32} {y_listLength : Nat → Int32} {y_gone : Nat → Int32} {y_classOfObject : Nat → Int32} {y_slots : Nat → Int64} {y_parameters : Nat → Int32} {y_generic : Nat → Int32} {y_single : Nat → Int32} {y_special : Nat → Int64} {y_kind : Nat → Int32} {y_tokens : Nat → Int32} {y_with : Nat → Int32} {y_methodAt : Nat → Int32} {y_pc : Nat → Int32} {y_chosen : Nat → Int32} {y_many : Nat → Int32} {y_reached : Nat → Int32} {y_opsAt : Nat → Int32} {y_broken : Nat → Int32} {y_arguments : Nat → Int64} {y_operands : Nat → Int64} {y_operator : Nat → Int32} {y_got : Nat → Int32}
theorem mx_sp33_f {post : Int32 → SX → Prop} {x1 z : Int32} {x2 : Int64} {nd : Nat} (h : z = 0 ∨ nd = 3) (hp : post 0 (x_classCount, x_superCount, x_objectCount, nI nd, x_state, x_stepCount, x_latestValue, x_enterGeneric, x_enterPlace, x_frameCount, x_operatorCount, x_valueCount, x_lineClass, x_lineLength, x_isSealed, x_classHasSlot, x_classSlot, x_superDraft, x_objectClass, x_objectHasSlot, x_objectSlot, x_parameterCount, x_methodGeneric, x_specialiser, x_tokenKind, x_tokenValue, x_tokenCount, x_argument, x_rank, x_orderPlace, x_frameMethod, x_framePlace, x_frameToken, x_frameOperators, x_frameArgument, x_operatorKind, x_operatorValue, x_operatorLeft, x_workedOut)) : wX_special_33 post x1 x2 z x_classCount x_superCount x_objectCount (nI nd) x_state x_stepCount x_latestValue x_enterGeneric x_enterPlace x_frameCount x_operatorCount x_valueCount x_lineClass x_lineLength x_isSealed x_classHasSlot x_classSlot x_superDraft x_objectClass x_objectHasSlot x_objectSlot x_parameterCount x_methodGeneric x_specialiser x_tokenKind x_tokenValue x_tokenCount x_argument x_rank x_orderPlace x_frameMethod x_framePlace x_frameToken x_frameOperators x_frameArgument x_operatorKind x_operatorValue x_operatorLeft x_workedOut := by
  refine br_c (fun _ => hp) (fun hz => ?_)
  rcases h with h | h
  · exact absurd h hz
  · exact br_t (congrArg nI h) hp
theorem mx_sp74 {post : Int32 → SX → Prop} {z : Int64} {nd : Nat} (h : nd < 3) (hp : post 1 (x_classCount, x_superCount, x_objectCount, nI (nd + 1), x_state, x_stepCount, x_latestValue, x_enterGeneric, x_enterPlace, x_frameCount, x_operatorCount, x_valueCount, x_lineClass, x_lineLength, x_isSealed, x_classHasSlot, x_classSlot, x_superDraft, x_objectClass, x_objectHasSlot, x_objectSlot, x_parameterCount, x_methodGeneric, vp_updL x_specialiser (72 + nd) z, x_tokenKind, x_tokenValue, x_tokenCount, x_argument, x_rank, x_orderPlace, x_frameMethod, x_framePlace, x_frameToken, x_frameOperators, x_frameArgument, x_operatorKind, x_operatorValue, x_operatorLeft, x_workedOut)) : wX_special_74 post z (72 + nI nd) x_classCount x_superCount x_objectCount (nI nd) x_state x_stepCount x_latestValue x_enterGeneric x_enterPlace x_frameCount x_operatorCount x_valueCount x_lineClass x_lineLength x_isSealed x_classHasSlot x_classSlot x_superDraft x_objectClass x_objectHasSlot x_objectSlot x_parameterCount x_methodGeneric x_specialiser x_tokenKind x_tokenValue x_tokenCount x_argument x_rank x_orderPlace x_frameMethod x_framePlace x_frameToken x_frameOperators x_frameArgument x_operatorKind x_operatorValue x_operatorLeft x_workedOut := by
  refine ⟨pk_in (72 + nd) 75 (by omega) (bs_ad 72 nd), nm_r ?_ (nm_r (nI_1 nd) hp)⟩
  rw [bs_ad 72 nd, bs_clk (by omega)]
theorem mx_sp33_0 {post : Int32 → SX → Prop} {x2 : Int64} {nd : Nat} (h : nd < 3) (hp : post 1 (x_classCount, x_superCount, x_objectCount, nI (nd + 1), x_state, x_stepCount, x_latestValue, x_enterGeneric, x_enterPlace, x_frameCount, x_operatorCount, x_valueCount, x_lineClass, x_lineLength, x_isSealed, x_classHasSlot, x_classSlot, x_superDraft, x_objectClass, x_objectHasSlot, x_objectSlot, x_parameterCount, x_methodGeneric, vp_updL x_specialiser (72 + nd) (8589934592 + x2), x_tokenKind, x_tokenValue, x_tokenCount, x_argument, x_rank, x_orderPlace, x_frameMethod, x_framePlace, x_frameToken, x_frameOperators, x_frameArgument, x_operatorKind, x_operatorValue, x_operatorLeft, x_workedOut)) : wX_special_33 post 0 x2 1 x_classCount x_superCount x_objectCount (nI nd) x_state x_stepCount x_latestValue x_enterGeneric x_enterPlace x_frameCount x_operatorCount x_valueCount x_lineClass x_lineLength x_isSealed x_classHasSlot x_classSlot x_superDraft x_objectClass x_objectHasSlot x_objectSlot x_parameterCount x_methodGeneric x_specialiser x_tokenKind x_tokenValue x_tokenCount x_argument x_rank x_orderPlace x_frameMethod x_framePlace x_frameToken x_frameOperators x_frameArgument x_operatorKind x_operatorValue x_operatorLeft x_workedOut := by
  refine br_f (by decide) (pk_eq nd 3 (fun e => by omega) (fun _ => br_t rfl ?_))
  exact mx_sp74 h hp
theorem mx_sp33_1 {post : Int32 → SX → Prop} {x2 : Int64} {nd : Nat} (h : nd < 3) (hp : post 1 (x_classCount, x_superCount, x_objectCount, nI (nd + 1), x_state, x_stepCount, x_latestValue, x_enterGeneric, x_enterPlace, x_frameCount, x_operatorCount, x_valueCount, x_lineClass, x_lineLength, x_isSealed, x_classHasSlot, x_classSlot, x_superDraft, x_objectClass, x_objectHasSlot, x_objectSlot, x_parameterCount, x_methodGeneric, vp_updL x_specialiser (72 + nd) x2, x_tokenKind, x_tokenValue, x_tokenCount, x_argument, x_rank, x_orderPlace, x_frameMethod, x_framePlace, x_frameToken, x_frameOperators, x_frameArgument, x_operatorKind, x_operatorValue, x_operatorLeft, x_workedOut)) : wX_special_33 post 1 x2 1 x_classCount x_superCount x_objectCount (nI nd) x_state x_stepCount x_latestValue x_enterGeneric x_enterPlace x_frameCount x_operatorCount x_valueCount x_lineClass x_lineLength x_isSealed x_classHasSlot x_classSlot x_superDraft x_objectClass x_objectHasSlot x_objectSlot x_parameterCount x_methodGeneric x_specialiser x_tokenKind x_tokenValue x_tokenCount x_argument x_rank x_orderPlace x_frameMethod x_framePlace x_frameToken x_frameOperators x_frameArgument x_operatorKind x_operatorValue x_operatorLeft x_workedOut := by
  refine br_f (by decide) (pk_eq nd 3 (fun e => by omega) (fun _ => br_f (by decide) ?_))
  exact mx_sp74 h hp
theorem my_sp36 {post : Int32 → SY → Prop} {x1 : Int32} {x2 : Int64} {nd : Nat} (hx : x1 = 0 ∨ x1 = 1) (h : nd < 3) (hp : post 1 (y_classes, y_supers, y_objects, nI (nd + 1), y_depth, y_ops, y_held, y_fault, y_steps, y_shownSteps, y_result, y_line, y_lineLength, y_has, y_sealed, y_initial, y_drafted, y_draftHas, y_draftInitial, y_lists, y_listLength, y_gone, y_classOfObject, y_slots, y_parameters, y_generic, upd y_single (72 + nd) x1, vp_updL y_special (72 + nd) x2, y_kind, y_tokens, y_with, y_methodAt, y_pc, y_chosen, y_many, y_reached, y_opsAt, y_broken, y_arguments, y_operands, y_operator, y_got)) : wY_special_36 post x1 x2 y_classes y_supers y_objects (nI nd) y_depth y_ops y_held y_fault y_steps y_shownSteps y_result y_line y_lineLength y_has y_sealed y_initial y_drafted y_draftHas y_draftInitial y_lists y_listLength y_gone y_classOfObject y_slots y_parameters y_generic y_single y_special y_kind y_tokens y_with y_methodAt y_pc y_chosen y_many y_reached y_opsAt y_broken y_arguments y_operands y_operator y_got := by
  refine ⟨pk_in (72 + nd) 75 (by omega) (bs_ad 72 nd), nm_r ?_ (nm_r (nI_1 nd) ⟨pk_in (72 + nd) 75 (by omega) (bs_ad 72 nd), nm_r ?_ hp⟩)⟩
  · rw [bs_ad 72 nd, bs_clk (by omega), bs_z hx]
  · rw [bs_ad 72 nd, bs_clk (by omega)]
end
theorem ea_spc_d {nc no nd : Nat} {MG PC : Nat → Int32} {SP : Nat → Int64} {SI : Nat → Int32} {SG : Nat → Int64} (h : rl_spc nc no nd MG PC SP SI SG) (hd : nd < 3) {sp sg : Int64} {si : Int32} (hs : rl_sp nc no sp si sg) : rl_spc nc no (nd + 1) MG PC (vp_updL SP (72 + nd) sp) (upd SI (72 + nd) si) (vp_updL SG (72 + nd) sg) := by
  refine ⟨by omega, fun k hk => ?_, fun m g p hm hg hp h1 h2 k hk => ?_⟩
  · by_cases e : k = nd
    · rw [e, pk_uLs, pk_us, pk_uLs]; exact hs
    · rw [pk_uLn (f := SP) (by omega), pk_un (by omega), pk_uLn (f := SG) (by omega)]; exact h.2.1 k (by omega)
  · rw [pk_uLn (f := SP) (by omega), pk_un (by omega), pk_uLn (f := SG) (by omega)]; exact h.2.2 m g p hm hg hp h1 h2 k hk
theorem ea_unq_d {MG PC : Nat → Int32} {SP : Nat → Int64} (h : rl_unq MG PC SP) (nd : Nat) (z : Int64) : rl_unq MG PC (vp_updL SP (72 + nd) z) := by
  intro i j g p hi hj hg hp h1 h2 h3 h4
  refine h i j g p hi hj hg hp h1 h2 h3 (fun k hk => ?_)
  have h5 := h4 k hk
  rw [pk_uLn (by omega), pk_uLn (by omega)] at h5
  exact h5
theorem i_vc_special {k : Nat} {u : SX} {v : SY} (I : i_Rel k u v) (hk : k + 9 ≤ 4608) (v1 : Int32) (a1 : Int64) : wpX_special (fun r u' => wpY_special (fun r' v' => r' = r ∧ i_Rel (k + 9) u' v') v (lw_bz v1) a1) u (lw_bz v1) a1 := by
  obtain ⟨x_classCount, x_superCount, x_objectCount, x_draftSpecialCount, x_state, x_stepCount, x_latestValue, x_enterGeneric, x_enterPlace, x_frameCount, x_operatorCount, x_valueCount, x_lineClass, x_lineLength, x_isSealed, x_classHasSlot, x_classSlot, x_superDraft, x_objectClass, x_objectHasSlot, x_objectSlot, x_parameterCount, x_methodGeneric, x_specialiser, x_tokenKind, x_tokenValue, x_tokenCount, x_argument, x_rank, x_orderPlace, x_frameMethod, x_framePlace, x_frameToken, x_frameOperators, x_frameArgument, x_operatorKind, x_operatorValue, x_operatorLeft, x_workedOut⟩ := u
  obtain ⟨y_classes, y_supers, y_objects, y_specials, y_depth, y_ops, y_held, y_fault, y_steps, y_shownSteps, y_result, y_line, y_lineLength, y_has, y_sealed, y_initial, y_drafted, y_draftHas, y_draftInitial, y_lists, y_listLength, y_gone, y_classOfObject, y_slots, y_parameters, y_generic, y_single, y_special, y_kind, y_tokens, y_with, y_methodAt, y_pc, y_chosen, y_many, y_reached, y_opsAt, y_broken, y_arguments, y_operands, y_operator, y_got⟩ := v
  obtain ⟨nc, no, ns, nd, rfl, rfl, rfl, rfl, rfl, rfl, rfl, rfl, rfl, rfl, rfl, rfl, rfl, rfl, rfl, rfl, rfl, rfl, rfl, rfl, hcls, hsup, hslt, hobj, hpar, hgen, htok, hbod, hspc, hunq⟩ := I
  have J : i_Rel (k + 9) (nI nc, nI ns, nI no, nI nd, x_state, x_stepCount, x_latestValue, x_enterGeneric, x_enterPlace, x_frameCount, x_operatorCount, x_valueCount, x_lineClass, x_lineLength, x_isSealed, x_classHasSlot, x_classSlot, x_superDraft, x_objectClass, x_objectHasSlot, x_objectSlot, x_parameterCount, x_methodGeneric, x_specialiser, x_tokenKind, x_tokenValue, x_tokenCount, x_argument, x_rank, x_orderPlace, x_frameMethod, x_framePlace, x_frameToken, x_frameOperators, x_frameArgument, x_operatorKind, x_operatorValue, x_operatorLeft, x_workedOut) (nI nc, nI ns, nI no, nI nd, y_depth, y_ops, y_held, y_fault, y_steps, x_stepCount, x_latestValue, x_lineClass, x_lineLength, y_has, x_isSealed, y_initial, x_superDraft, y_draftHas, y_draftInitial, y_lists, y_listLength, y_gone, x_objectClass, y_slots, x_parameterCount, x_methodGeneric, y_single, y_special, x_tokenKind, x_tokenCount, x_tokenValue, y_methodAt, y_pc, y_chosen, y_many, y_reached, y_opsAt, y_broken, y_arguments, y_operands, y_operator, y_got) := ⟨nc, no, ns, nd, rfl, rfl, rfl, rfl, rfl, rfl, rfl, rfl, rfl, rfl, rfl, rfl, rfl, rfl, rfl, rfl, rfl, rfl, rfl, rfl, hcls, hsup, hslt, hobj, hpar, hgen, htok, hbod, hspc, hunq⟩
  have hn : nc ≤ 16 := hcls.2.1
  have hno := hobj.1
  have h3 := hspc.1
  have enc : (nI nc).toInt64 = lN nc := nI_l (by omega)
  rcases lw_bz_01 v1 with e | e
  · rw [e]
    unfold wpX_special
    refine br_t rfl ?_
    by_cases hc : nd < 3 ∧ ∃ c, c < nc ∧ a1 = lN c
    · obtain ⟨hd, c, hc, rfl⟩ := hc
      have hz : ¬ lN c < 0 := by
        rw [show (0 : Int64) = lN 0 from rfl, pk_lLT (by omega) (by omega)]; omega
      refine br_f hz (br_f (by rw [enc, pk_lLE (by omega) (by omega)]; omega) (mx_sp33_0 hd ?_))
      unfold wpY_special
      refine pk_eq nd 3 (fun e => by omega) (fun _ => br_t rfl ?_)
      refine br_f hz (br_t (by rw [enc, pk_lLT (by omega) (by omega)]; omega) (br_t rfl (my_sp36 (Or.inl rfl) hd ⟨rfl, ?_⟩)))
      refine ⟨nc, no, ns, nd + 1, rfl, rfl, rfl, rfl, rfl, rfl, rfl, rfl, rfl, rfl, rfl, rfl, rfl, rfl, rfl, rfl, rfl, rfl, rfl, rfl, hcls, hsup, hslt, hobj, hpar, hgen, htok, hbod, ea_spc_d hspc hd (Or.inl ⟨rfl, c, hc, rfl, ?_⟩), ea_unq_d hunq nd _⟩
      rw [show (8589934592 : Int64) = lN 8589934592 from by decide, lN_add]
    · have fin : wpY_special (fun r' v' => r' = (0 : Int32) ∧ i_Rel (k + 9) (nI nc, nI ns, nI no, nI nd, x_state, x_stepCount, x_latestValue, x_enterGeneric, x_enterPlace, x_frameCount, x_operatorCount, x_valueCount, x_lineClass, x_lineLength, x_isSealed, x_classHasSlot, x_classSlot, x_superDraft, x_objectClass, x_objectHasSlot, x_objectSlot, x_parameterCount, x_methodGeneric, x_specialiser, x_tokenKind, x_tokenValue, x_tokenCount, x_argument, x_rank, x_orderPlace, x_frameMethod, x_framePlace, x_frameToken, x_frameOperators, x_frameArgument, x_operatorKind, x_operatorValue, x_operatorLeft, x_workedOut) v') (nI nc, nI ns, nI no, nI nd, y_depth, y_ops, y_held, y_fault, y_steps, x_stepCount, x_latestValue, x_lineClass, x_lineLength, y_has, x_isSealed, y_initial, x_superDraft, y_draftHas, y_draftInitial, y_lists, y_listLength, y_gone, x_objectClass, y_slots, x_parameterCount, x_methodGeneric, y_single, y_special, x_tokenKind, x_tokenCount, x_tokenValue, y_methodAt, y_pc, y_chosen, y_many, y_reached, y_opsAt, y_broken, y_arguments, y_operands, y_operator, y_got) 0 a1 := by
        unfold wpY_special
        refine pk_eq nd 3 (fun _ => ⟨rfl, J⟩) (fun e3 => br_t rfl (br_c (fun _ => br_f (by decide) ⟨rfl, J⟩) (fun h0 => br_c (fun h1 => ?_) (fun _ => br_f (by decide) ⟨rfl, J⟩))))
        obtain ⟨j, hj, rfl⟩ := pk_lOf h0
        rw [enc, pk_lLT hj (by omega)] at h1
        exact absurd ⟨by omega, j, h1, rfl⟩ hc
      refine br_c (fun _ => mx_sp33_f (Or.inl rfl) fin) (fun h0 => br_c (fun _ => mx_sp33_f (Or.inl rfl) fin) (fun h1 => mx_sp33_f (Or.inr ?_) fin))
      obtain ⟨j, hj, rfl⟩ := pk_lOf h0
      rw [enc, pk_lLE (by omega) hj] at h1
      by_cases h9 : nd = 3
      · exact h9
      · exact absurd ⟨by omega, j, by omega, rfl⟩ hc
  · rw [e]
    unfold wpX_special
    refine br_f (by decide) ?_
    by_cases hv : rl_val no a1
    · refine mx_isValue_t hno hv ?_
      by_cases hd : nd < 3
      · refine mx_sp33_1 hd ?_
        unfold wpY_special
        refine pk_eq nd 3 (fun e => by omega) (fun _ => br_f (by decide) (my_classOf hno ?_))
        obtain ⟨c, _, ec⟩ := ob_kc_v hcls.1 hobj hv
        rw [ec]
        refine br_t (bs_ge0 (by omega)) (my_sp36 (Or.inr rfl) hd ⟨rfl, ?_⟩)
        exact ⟨nc, no, ns, nd + 1, rfl, rfl, rfl, rfl, rfl, rfl, rfl, rfl, rfl, rfl, rfl, rfl, rfl, rfl, rfl, rfl, rfl, rfl, rfl, rfl, hcls, hsup, hslt, hobj, hpar, hgen, htok, hbod, ea_spc_d hspc hd (Or.inr ⟨rfl, rfl, hv⟩), ea_unq_d hunq nd _⟩
      · refine mx_sp33_f (Or.inr (by omega)) ?_
        unfold wpY_special
        exact pk_eq nd 3 (fun _ => ⟨rfl, J⟩) (fun e => by omega)
    · refine mx_isValue_f hno hv (mx_sp33_f (Or.inl rfl) ?_)
      unfold wpY_special
      refine pk_eq nd 3 (fun _ => ⟨rfl, J⟩) (fun _ => br_f (by decide) (my_classOf hno ?_))
      rw [ob_kc_n hv]
      exact br_f (by decide) ⟨rfl, J⟩
section
variable {x_classCount : Int32} {x_superCount : Int32} {x_objectCount : Int32} {x_draftSpecialCount : Int32} {x_state : Int32} {x_stepCount : Int32} {x_latestValue : Int64} {x_enterGeneric : Int32} {x_enterPlace : Int32} {x_frameCount : Int32} {x_operatorCount : Int32} {x_valueCount : Int32} {x_lineClass : Nat → Int32} {x_lineLength : Nat → Int32} {x_isSealed : Nat → Int32} {x_classHasSlot : Nat → Int32} {x_classSlot : Nat → Int32} {x_superDraft : Nat → Int32} {x_objectClass : Nat → Int32} {x_objectHasSlot : Nat → Int32} {x_objectSlot : Nat → Int64} {x_parameterCount : Nat → Int32} {x_methodGeneric : Nat → Int32} {x_specialiser : Nat → Int64} {x_tokenKind : Nat → Int32} {x_tokenValue : Nat → Int32} {x_tokenCount : Nat → Int32} {x_argument : Nat → Int64} {x_rank : Nat → Int32} {x_orderPlace : Nat → Int32} {x_frameMethod : Nat → Int32} {x_framePlace : Nat → Int32} {x_frameToken : Nat → Int32} {x_frameOperators : Nat → Int32} {x_frameArgument : Nat → Int64} {x_operatorKind : Nat → Int32} {x_operatorValue : Nat → Int32} {x_operatorLeft : Nat → Int32} {x_workedOut : Nat → Int64} {y_classes : Int32} {y_supers : Int32} {y_objects : Int32} {y_specials : Int32} {y_depth : Int32} {y_ops : Int32} {y_held : Int32} {y_fault : Int32} {y_steps : Int32} {y_shownSteps : Int32} {y_result : Int64} {y_line : Nat → Int32} {y_lineLength : Nat → Int32} {y_has : Nat → Int32} {y_sealed : Nat → Int32} {y_initial : Nat → Int32} {y_drafted : Nat → Int32} {y_draftHas : Nat → Int32} {y_draftInitial : Nat → Int32} {y_lists : Nat → Int32} {y_listLength : Nat → Int32} {y_gone : Nat → Int32} {y_classOfObject : Nat → Int32} {y_slots : Nat → Int64} {y_parameters : Nat → Int32} {y_generic : Nat → Int32} {y_single : Nat → Int32} {y_special : Nat → Int64} {y_kind : Nat → Int32} {y_tokens : Nat → Int32} {y_with : Nat → Int32} {y_methodAt : Nat → Int32} {y_pc : Nat → Int32} {y_chosen : Nat → Int32} {y_many : Nat → Int32} {y_reached : Nat → Int32} {y_opsAt : Nat → Int32} {y_broken : Nat → Int32} {y_arguments : Nat → Int64} {y_operands : Nat → Int64} {y_operator : Nat → Int32} {y_got : Nat → Int32}
theorem my_token_91 {post : Int32 → SY → Prop} {q t : Nat} {v : Int32} (hq : q ≤ 12) (ht : t < 16) (e : y_tokens 24 = nI t) (hp : post 1 (y_classes, y_supers, y_objects, y_specials, y_depth, y_ops, y_held, y_fault, y_steps, y_shownSteps, y_result, y_line, y_lineLength, y_has, y_sealed, y_initial, y_drafted, y_draftHas, y_draftInitial, y_lists, y_listLength, y_gone, y_classOfObject, y_slots, y_parameters, y_generic, y_single, y_special, upd y_kind (384 + t) (nI q), upd y_tokens 24 (nI (t + 1)), upd y_with (384 + t) v, y_methodAt, y_pc, y_chosen, y_many, y_reached, y_opsAt, y_broken, y_arguments, y_operands, y_operator, y_got)) : wY_token_91 post (nI q) v y_classes y_supers y_objects y_specials y_depth y_ops y_held y_fault y_steps y_shownSteps y_result y_line y_lineLength y_has y_sealed y_initial y_drafted y_draftHas y_draftInitial y_lists y_listLength y_gone y_classOfObject y_slots y_parameters y_generic y_single y_special y_kind y_tokens y_with y_methodAt y_pc y_chosen y_many y_reached y_opsAt y_broken y_arguments y_operands y_operator y_got := by
  unfold wY_token_91
  rw [e]
  refine ⟨pk_in (384 + t) 400 (by omega) (bs_ad 384 t), nm_r ?_ (nm_r ?_ ⟨pk_in (384 + t) 400 (by omega) (bs_ad 384 t), nm_r ?_ hp⟩)⟩
  · rw [bs_ad 384 t, bs_clk (by omega), bs_vb8 (by omega)]
  · rw [nI_1, bs_vb8 (by omega)]
  · rw [bs_ad 384 t, bs_clk (by omega)]
theorem mx_tk0 {post : Int32 → Prop} {v : Int32} (hp : post 1) : wpX_isToken post (x_classCount, x_superCount, x_objectCount, x_draftSpecialCount, x_state, x_stepCount, x_latestValue, x_enterGeneric, x_enterPlace, x_frameCount, x_operatorCount, x_valueCount, x_lineClass, x_lineLength, x_isSealed, x_classHasSlot, x_classSlot, x_superDraft, x_objectClass, x_objectHasSlot, x_objectSlot, x_parameterCount, x_methodGeneric, x_specialiser, x_tokenKind, x_tokenValue, x_tokenCount, x_argument, x_rank, x_orderPlace, x_frameMethod, x_framePlace, x_frameToken, x_frameOperators, x_frameArgument, x_operatorKind, x_operatorValue, x_operatorLeft, x_workedOut) 0 v := by
  unfold wpX_isToken
  exact br_f (by decide) (br_f (by decide) (br_t rfl (hp)))
theorem mx_tk1_t {post : Int32 → Prop} {a : Nat} (h : a < 3) (hp : post 1) : wpX_isToken post (x_classCount, x_superCount, x_objectCount, x_draftSpecialCount, x_state, x_stepCount, x_latestValue, x_enterGeneric, x_enterPlace, x_frameCount, x_operatorCount, x_valueCount, x_lineClass, x_lineLength, x_isSealed, x_classHasSlot, x_classSlot, x_superDraft, x_objectClass, x_objectHasSlot, x_objectSlot, x_parameterCount, x_methodGeneric, x_specialiser, x_tokenKind, x_tokenValue, x_tokenCount, x_argument, x_rank, x_orderPlace, x_frameMethod, x_framePlace, x_frameToken, x_frameOperators, x_frameArgument, x_operatorKind, x_operatorValue, x_operatorLeft, x_workedOut) 1 (nI a) := by
  unfold wpX_isToken
  exact br_f (by decide) (br_f (by decide) (br_f (by decide) (br_t rfl (br_f (nI_pos (by omega)) (br_f (nI_ge (b := 3) h (by omega)) hp)))))
theorem mx_tk1_f {post : Int32 → Prop} {v : Int32} (h : v < 0 ∨ (¬ v < 0 ∧ nI 3 ≤ v)) (hp : post 0) : wpX_isToken post (x_classCount, x_superCount, x_objectCount, x_draftSpecialCount, x_state, x_stepCount, x_latestValue, x_enterGeneric, x_enterPlace, x_frameCount, x_operatorCount, x_valueCount, x_lineClass, x_lineLength, x_isSealed, x_classHasSlot, x_classSlot, x_superDraft, x_objectClass, x_objectHasSlot, x_objectSlot, x_parameterCount, x_methodGeneric, x_specialiser, x_tokenKind, x_tokenValue, x_tokenCount, x_argument, x_rank, x_orderPlace, x_frameMethod, x_framePlace, x_frameToken, x_frameOperators, x_frameArgument, x_operatorKind, x_operatorValue, x_operatorLeft, x_workedOut) 1 v := by
  unfold wpX_isToken
  rcases h with h | ⟨h1, h2⟩
  · exact br_f (by decide) (br_f (by decide) (br_f (by decide) (br_t rfl (br_t h hp))))
  · exact br_f (by decide) (br_f (by decide) (br_f (by decide) (br_t rfl (br_f h1 (br_t h2 hp)))))
theorem mx_tk2 {post : Int32 → Prop} {v : Int32} (hp : post 1) : wpX_isToken post (x_classCount, x_superCount, x_objectCount, x_draftSpecialCount, x_state, x_stepCount, x_latestValue, x_enterGeneric, x_enterPlace, x_frameCount, x_operatorCount, x_valueCount, x_lineClass, x_lineLength, x_isSealed, x_classHasSlot, x_classSlot, x_superDraft, x_objectClass, x_objectHasSlot, x_objectSlot, x_parameterCount, x_methodGeneric, x_specialiser, x_tokenKind, x_tokenValue, x_tokenCount, x_argument, x_rank, x_orderPlace, x_frameMethod, x_framePlace, x_frameToken, x_frameOperators, x_frameArgument, x_operatorKind, x_operatorValue, x_operatorLeft, x_workedOut) 2 v := by
  unfold wpX_isToken
  exact br_f (by decide) (br_f (by decide) (br_f (by decide) (br_f (by decide) (br_t rfl (hp)))))
theorem mx_tk3_t {post : Int32 → Prop} {a : Nat} (h : a < 5) (hp : post 1) : wpX_isToken post (x_classCount, x_superCount, x_objectCount, x_draftSpecialCount, x_state, x_stepCount, x_latestValue, x_enterGeneric, x_enterPlace, x_frameCount, x_operatorCount, x_valueCount, x_lineClass, x_lineLength, x_isSealed, x_classHasSlot, x_classSlot, x_superDraft, x_objectClass, x_objectHasSlot, x_objectSlot, x_parameterCount, x_methodGeneric, x_specialiser, x_tokenKind, x_tokenValue, x_tokenCount, x_argument, x_rank, x_orderPlace, x_frameMethod, x_framePlace, x_frameToken, x_frameOperators, x_frameArgument, x_operatorKind, x_operatorValue, x_operatorLeft, x_workedOut) 3 (nI a) := by
  unfold wpX_isToken
  exact br_f (by decide) (br_f (by decide) (br_f (by decide) (br_f (by decide) (br_f (by decide) (br_t rfl (mx_isGeneric_t h ⟨rfl, hp⟩))))))
theorem mx_tk3_f {post : Int32 → Prop} {v : Int32} (h : v < 0 ∨ (¬ v < 0 ∧ nI 5 ≤ v)) (hp : post 0) : wpX_isToken post (x_classCount, x_superCount, x_objectCount, x_draftSpecialCount, x_state, x_stepCount, x_latestValue, x_enterGeneric, x_enterPlace, x_frameCount, x_operatorCount, x_valueCount, x_lineClass, x_lineLength, x_isSealed, x_classHasSlot, x_classSlot, x_superDraft, x_objectClass, x_objectHasSlot, x_objectSlot, x_parameterCount, x_methodGeneric, x_specialiser, x_tokenKind, x_tokenValue, x_tokenCount, x_argument, x_rank, x_orderPlace, x_frameMethod, x_framePlace, x_frameToken, x_frameOperators, x_frameArgument, x_operatorKind, x_operatorValue, x_operatorLeft, x_workedOut) 3 v := by
  unfold wpX_isToken
  exact br_f (by decide) (br_f (by decide) (br_f (by decide) (br_f (by decide) (br_f (by decide) (br_t rfl (mx_isGeneric_f h ⟨rfl, hp⟩))))))
theorem mx_tk4_t {post : Int32 → Prop} {a : Nat} (h : a < 4) (hp : post 1) : wpX_isToken post (x_classCount, x_superCount, x_objectCount, x_draftSpecialCount, x_state, x_stepCount, x_latestValue, x_enterGeneric, x_enterPlace, x_frameCount, x_operatorCount, x_valueCount, x_lineClass, x_lineLength, x_isSealed, x_classHasSlot, x_classSlot, x_superDraft, x_objectClass, x_objectHasSlot, x_objectSlot, x_parameterCount, x_methodGeneric, x_specialiser, x_tokenKind, x_tokenValue, x_tokenCount, x_argument, x_rank, x_orderPlace, x_frameMethod, x_framePlace, x_frameToken, x_frameOperators, x_frameArgument, x_operatorKind, x_operatorValue, x_operatorLeft, x_workedOut) 4 (nI a) := by
  unfold wpX_isToken
  exact br_f (by decide) (br_f (by decide) (br_f (by decide) (br_f (by decide) (br_f (by decide) (br_f (by decide) (br_t rfl (mx_isSlot_t h ⟨rfl, hp⟩)))))))
theorem mx_tk4_f {post : Int32 → Prop} {v : Int32} (h : v < 0 ∨ (¬ v < 0 ∧ nI 4 ≤ v)) (hp : post 0) : wpX_isToken post (x_classCount, x_superCount, x_objectCount, x_draftSpecialCount, x_state, x_stepCount, x_latestValue, x_enterGeneric, x_enterPlace, x_frameCount, x_operatorCount, x_valueCount, x_lineClass, x_lineLength, x_isSealed, x_classHasSlot, x_classSlot, x_superDraft, x_objectClass, x_objectHasSlot, x_objectSlot, x_parameterCount, x_methodGeneric, x_specialiser, x_tokenKind, x_tokenValue, x_tokenCount, x_argument, x_rank, x_orderPlace, x_frameMethod, x_framePlace, x_frameToken, x_frameOperators, x_frameArgument, x_operatorKind, x_operatorValue, x_operatorLeft, x_workedOut) 4 v := by
  unfold wpX_isToken
  exact br_f (by decide) (br_f (by decide) (br_f (by decide) (br_f (by decide) (br_f (by decide) (br_f (by decide) (br_t rfl (mx_isSlot_f h ⟨rfl, hp⟩)))))))
theorem mx_tk5_t {post : Int32 → Prop} {a : Nat} (h : a < 4) (hp : post 1) : wpX_isToken post (x_classCount, x_superCount, x_objectCount, x_draftSpecialCount, x_state, x_stepCount, x_latestValue, x_enterGeneric, x_enterPlace, x_frameCount, x_operatorCount, x_valueCount, x_lineClass, x_lineLength, x_isSealed, x_classHasSlot, x_classSlot, x_superDraft, x_objectClass, x_objectHasSlot, x_objectSlot, x_parameterCount, x_methodGeneric, x_specialiser, x_tokenKind, x_tokenValue, x_tokenCount, x_argument, x_rank, x_orderPlace, x_frameMethod, x_framePlace, x_frameToken, x_frameOperators, x_frameArgument, x_operatorKind, x_operatorValue, x_operatorLeft, x_workedOut) 5 (nI a) := by
  unfold wpX_isToken
  exact br_f (by decide) (br_f (by decide) (br_f (by decide) (br_f (by decide) (br_f (by decide) (br_f (by decide) (br_f (by decide) (br_t rfl (mx_isSlot_t h ⟨rfl, hp⟩))))))))
theorem mx_tk5_f {post : Int32 → Prop} {v : Int32} (h : v < 0 ∨ (¬ v < 0 ∧ nI 4 ≤ v)) (hp : post 0) : wpX_isToken post (x_classCount, x_superCount, x_objectCount, x_draftSpecialCount, x_state, x_stepCount, x_latestValue, x_enterGeneric, x_enterPlace, x_frameCount, x_operatorCount, x_valueCount, x_lineClass, x_lineLength, x_isSealed, x_classHasSlot, x_classSlot, x_superDraft, x_objectClass, x_objectHasSlot, x_objectSlot, x_parameterCount, x_methodGeneric, x_specialiser, x_tokenKind, x_tokenValue, x_tokenCount, x_argument, x_rank, x_orderPlace, x_frameMethod, x_framePlace, x_frameToken, x_frameOperators, x_frameArgument, x_operatorKind, x_operatorValue, x_operatorLeft, x_workedOut) 5 v := by
  unfold wpX_isToken
  exact br_f (by decide) (br_f (by decide) (br_f (by decide) (br_f (by decide) (br_f (by decide) (br_f (by decide) (br_f (by decide) (br_t rfl (mx_isSlot_f h ⟨rfl, hp⟩))))))))
theorem mx_tk6 {post : Int32 → Prop} {v : Int32} (hp : post 1) : wpX_isToken post (x_classCount, x_superCount, x_objectCount, x_draftSpecialCount, x_state, x_stepCount, x_latestValue, x_enterGeneric, x_enterPlace, x_frameCount, x_operatorCount, x_valueCount, x_lineClass, x_lineLength, x_isSealed, x_classHasSlot, x_classSlot, x_superDraft, x_objectClass, x_objectHasSlot, x_objectSlot, x_parameterCount, x_methodGeneric, x_specialiser, x_tokenKind, x_tokenValue, x_tokenCount, x_argument, x_rank, x_orderPlace, x_frameMethod, x_framePlace, x_frameToken, x_frameOperators, x_frameArgument, x_operatorKind, x_operatorValue, x_operatorLeft, x_workedOut) 6 v := by
  unfold wpX_isToken
  exact br_f (by decide) (br_f (by decide) (br_f (by decide) (br_f (by decide) (br_f (by decide) (br_f (by decide) (br_f (by decide) (br_f (by decide) (br_t rfl (hp)))))))))
theorem mx_tk7 {post : Int32 → Prop} {v : Int32} (hp : post 1) : wpX_isToken post (x_classCount, x_superCount, x_objectCount, x_draftSpecialCount, x_state, x_stepCount, x_latestValue, x_enterGeneric, x_enterPlace, x_frameCount, x_operatorCount, x_valueCount, x_lineClass, x_lineLength, x_isSealed, x_classHasSlot, x_classSlot, x_superDraft, x_objectClass, x_objectHasSlot, x_objectSlot, x_parameterCount, x_methodGeneric, x_specialiser, x_tokenKind, x_tokenValue, x_tokenCount, x_argument, x_rank, x_orderPlace, x_frameMethod, x_framePlace, x_frameToken, x_frameOperators, x_frameArgument, x_operatorKind, x_operatorValue, x_operatorLeft, x_workedOut) 7 v := by
  unfold wpX_isToken
  exact br_f (by decide) (br_f (by decide) (br_f (by decide) (br_f (by decide) (br_f (by decide) (br_f (by decide) (br_f (by decide) (br_f (by decide) (br_f (by decide) (br_t rfl (hp))))))))))
theorem mx_tk8 {post : Int32 → Prop} {v : Int32} (hp : post 1) : wpX_isToken post (x_classCount, x_superCount, x_objectCount, x_draftSpecialCount, x_state, x_stepCount, x_latestValue, x_enterGeneric, x_enterPlace, x_frameCount, x_operatorCount, x_valueCount, x_lineClass, x_lineLength, x_isSealed, x_classHasSlot, x_classSlot, x_superDraft, x_objectClass, x_objectHasSlot, x_objectSlot, x_parameterCount, x_methodGeneric, x_specialiser, x_tokenKind, x_tokenValue, x_tokenCount, x_argument, x_rank, x_orderPlace, x_frameMethod, x_framePlace, x_frameToken, x_frameOperators, x_frameArgument, x_operatorKind, x_operatorValue, x_operatorLeft, x_workedOut) 8 v := by
  unfold wpX_isToken
  exact br_f (by decide) (br_f (by decide) (br_f (by decide) (br_f (by decide) (br_f (by decide) (br_f (by decide) (br_f (by decide) (br_f (by decide) (br_f (by decide) (br_f (by decide) (br_t rfl (hp)))))))))))
theorem mx_tk9 {post : Int32 → Prop} {v : Int32} (hp : post 1) : wpX_isToken post (x_classCount, x_superCount, x_objectCount, x_draftSpecialCount, x_state, x_stepCount, x_latestValue, x_enterGeneric, x_enterPlace, x_frameCount, x_operatorCount, x_valueCount, x_lineClass, x_lineLength, x_isSealed, x_classHasSlot, x_classSlot, x_superDraft, x_objectClass, x_objectHasSlot, x_objectSlot, x_parameterCount, x_methodGeneric, x_specialiser, x_tokenKind, x_tokenValue, x_tokenCount, x_argument, x_rank, x_orderPlace, x_frameMethod, x_framePlace, x_frameToken, x_frameOperators, x_frameArgument, x_operatorKind, x_operatorValue, x_operatorLeft, x_workedOut) 9 v := by
  unfold wpX_isToken
  exact br_f (by decide) (br_f (by decide) (br_f (by decide) (br_f (by decide) (br_f (by decide) (br_f (by decide) (br_f (by decide) (br_f (by decide) (br_f (by decide) (br_f (by decide) (br_f (by decide) (br_t rfl (hp))))))))))))
theorem mx_tk10 {post : Int32 → Prop} {v : Int32} (hp : post 1) : wpX_isToken post (x_classCount, x_superCount, x_objectCount, x_draftSpecialCount, x_state, x_stepCount, x_latestValue, x_enterGeneric, x_enterPlace, x_frameCount, x_operatorCount, x_valueCount, x_lineClass, x_lineLength, x_isSealed, x_classHasSlot, x_classSlot, x_superDraft, x_objectClass, x_objectHasSlot, x_objectSlot, x_parameterCount, x_methodGeneric, x_specialiser, x_tokenKind, x_tokenValue, x_tokenCount, x_argument, x_rank, x_orderPlace, x_frameMethod, x_framePlace, x_frameToken, x_frameOperators, x_frameArgument, x_operatorKind, x_operatorValue, x_operatorLeft, x_workedOut) 10 v := by
  unfold wpX_isToken
  exact br_f (by decide) (br_f (by decide) (br_f (by decide) (br_f (by decide) (br_f (by decide) (br_f (by decide) (br_f (by decide) (br_f (by decide) (br_f (by decide) (br_f (by decide) (br_f (by decide) (br_f (by decide) (br_t rfl (hp)))))))))))))
theorem mx_tk11_t {post : Int32 → Prop} {a : Nat} {nc : Nat} (hn : nc ≤ 16) (h : a < nc) (hp : post 1) : wpX_isToken post (nI nc, x_superCount, x_objectCount, x_draftSpecialCount, x_state, x_stepCount, x_latestValue, x_enterGeneric, x_enterPlace, x_frameCount, x_operatorCount, x_valueCount, x_lineClass, x_lineLength, x_isSealed, x_classHasSlot, x_classSlot, x_superDraft, x_objectClass, x_objectHasSlot, x_objectSlot, x_parameterCount, x_methodGeneric, x_specialiser, x_tokenKind, x_tokenValue, x_tokenCount, x_argument, x_rank, x_orderPlace, x_frameMethod, x_framePlace, x_frameToken, x_frameOperators, x_frameArgument, x_operatorKind, x_operatorValue, x_operatorLeft, x_workedOut) 11 (nI a) := by
  unfold wpX_isToken
  exact br_f (by decide) (br_f (by decide) (br_f (by decide) (br_f (by decide) (br_f (by decide) (br_f (by decide) (br_f (by decide) (br_f (by decide) (br_f (by decide) (br_f (by decide) (br_f (by decide) (br_f (by decide) (br_f (by decide) (br_t rfl (mx_isClass_t h hn ⟨rfl, hp⟩))))))))))))))
theorem mx_tk11_f {post : Int32 → Prop} {v : Int32} {nc : Nat} (h : v < 0 ∨ (¬ v < 0 ∧ nI nc ≤ v)) (hp : post 0) : wpX_isToken post (nI nc, x_superCount, x_objectCount, x_draftSpecialCount, x_state, x_stepCount, x_latestValue, x_enterGeneric, x_enterPlace, x_frameCount, x_operatorCount, x_valueCount, x_lineClass, x_lineLength, x_isSealed, x_classHasSlot, x_classSlot, x_superDraft, x_objectClass, x_objectHasSlot, x_objectSlot, x_parameterCount, x_methodGeneric, x_specialiser, x_tokenKind, x_tokenValue, x_tokenCount, x_argument, x_rank, x_orderPlace, x_frameMethod, x_framePlace, x_frameToken, x_frameOperators, x_frameArgument, x_operatorKind, x_operatorValue, x_operatorLeft, x_workedOut) 11 v := by
  unfold wpX_isToken
  exact br_f (by decide) (br_f (by decide) (br_f (by decide) (br_f (by decide) (br_f (by decide) (br_f (by decide) (br_f (by decide) (br_f (by decide) (br_f (by decide) (br_f (by decide) (br_f (by decide) (br_f (by decide) (br_f (by decide) (br_t rfl (mx_isClass_f h ⟨rfl, hp⟩))))))))))))))
theorem mx_tk12_t {post : Int32 → Prop} {a : Nat} {nc : Nat} (hn : nc ≤ 16) (h : a < nc) (hp : post 1) : wpX_isToken post (nI nc, x_superCount, x_objectCount, x_draftSpecialCount, x_state, x_stepCount, x_latestValue, x_enterGeneric, x_enterPlace, x_frameCount, x_operatorCount, x_valueCount, x_lineClass, x_lineLength, x_isSealed, x_classHasSlot, x_classSlot, x_superDraft, x_objectClass, x_objectHasSlot, x_objectSlot, x_parameterCount, x_methodGeneric, x_specialiser, x_tokenKind, x_tokenValue, x_tokenCount, x_argument, x_rank, x_orderPlace, x_frameMethod, x_framePlace, x_frameToken, x_frameOperators, x_frameArgument, x_operatorKind, x_operatorValue, x_operatorLeft, x_workedOut) 12 (nI a) := by
  unfold wpX_isToken
  exact br_f (by decide) (br_f (by decide) (br_f (by decide) (br_f (by decide) (br_f (by decide) (br_f (by decide) (br_f (by decide) (br_f (by decide) (br_f (by decide) (br_f (by decide) (br_f (by decide) (br_f (by decide) (br_f (by decide) (br_f (by decide) (br_t rfl (mx_isClass_t h hn ⟨rfl, hp⟩)))))))))))))))
theorem mx_tk12_f {post : Int32 → Prop} {v : Int32} {nc : Nat} (h : v < 0 ∨ (¬ v < 0 ∧ nI nc ≤ v)) (hp : post 0) : wpX_isToken post (nI nc, x_superCount, x_objectCount, x_draftSpecialCount, x_state, x_stepCount, x_latestValue, x_enterGeneric, x_enterPlace, x_frameCount, x_operatorCount, x_valueCount, x_lineClass, x_lineLength, x_isSealed, x_classHasSlot, x_classSlot, x_superDraft, x_objectClass, x_objectHasSlot, x_objectSlot, x_parameterCount, x_methodGeneric, x_specialiser, x_tokenKind, x_tokenValue, x_tokenCount, x_argument, x_rank, x_orderPlace, x_frameMethod, x_framePlace, x_frameToken, x_frameOperators, x_frameArgument, x_operatorKind, x_operatorValue, x_operatorLeft, x_workedOut) 12 v := by
  unfold wpX_isToken
  exact br_f (by decide) (br_f (by decide) (br_f (by decide) (br_f (by decide) (br_f (by decide) (br_f (by decide) (br_f (by decide) (br_f (by decide) (br_f (by decide) (br_f (by decide) (br_f (by decide) (br_f (by decide) (br_f (by decide) (br_f (by decide) (br_t rfl (mx_isClass_f h ⟨rfl, hp⟩)))))))))))))))
theorem my_tk0 {post : Int32 → SY → Prop} {v : Int32} {t : Nat} (ht : t < 16) (e : y_tokens 24 = nI t) (hw : wY_token_91 post 0 v y_classes y_supers y_objects y_specials y_depth y_ops y_held y_fault y_steps y_shownSteps y_result y_line y_lineLength y_has y_sealed y_initial y_drafted y_draftHas y_draftInitial y_lists y_listLength y_gone y_classOfObject y_slots y_parameters y_generic y_single y_special y_kind y_tokens y_with y_methodAt y_pc y_chosen y_many y_reached y_opsAt y_broken y_arguments y_operands y_operator y_got) : wpY_token post (y_classes, y_supers, y_objects, y_specials, y_depth, y_ops, y_held, y_fault, y_steps, y_shownSteps, y_result, y_line, y_lineLength, y_has, y_sealed, y_initial, y_drafted, y_draftHas, y_draftInitial, y_lists, y_listLength, y_gone, y_classOfObject, y_slots, y_parameters, y_generic, y_single, y_special, y_kind, y_tokens, y_with, y_methodAt, y_pc, y_chosen, y_many, y_reached, y_opsAt, y_broken, y_arguments, y_operands, y_operator, y_got) 0 v := by
  unfold wpY_token
  refine my_out_t (c := 0) (n := 13) (by omega) (by omega) (br_t rfl ?_)
  rw [e]
  refine pk_eq t 16 (fun e => by omega) (fun _ => ?_)
  exact br_f (by decide) (br_f (by decide) (br_f (by decide) (br_f (by decide) (br_t (by decide) hw))))
theorem my_tk1_t {post : Int32 → SY → Prop} {a t : Nat} (h : a < 3) (ht : t < 16) (e : y_tokens 24 = nI t) (hw : wY_token_91 post 1 (nI a) y_classes y_supers y_objects y_specials y_depth y_ops y_held y_fault y_steps y_shownSteps y_result y_line y_lineLength y_has y_sealed y_initial y_drafted y_draftHas y_draftInitial y_lists y_listLength y_gone y_classOfObject y_slots y_parameters y_generic y_single y_special y_kind y_tokens y_with y_methodAt y_pc y_chosen y_many y_reached y_opsAt y_broken y_arguments y_operands y_operator y_got) : wpY_token post (y_classes, y_supers, y_objects, y_specials, y_depth, y_ops, y_held, y_fault, y_steps, y_shownSteps, y_result, y_line, y_lineLength, y_has, y_sealed, y_initial, y_drafted, y_draftHas, y_draftInitial, y_lists, y_listLength, y_gone, y_classOfObject, y_slots, y_parameters, y_generic, y_single, y_special, y_kind, y_tokens, y_with, y_methodAt, y_pc, y_chosen, y_many, y_reached, y_opsAt, y_broken, y_arguments, y_operands, y_operator, y_got) 1 (nI a) := by
  unfold wpY_token
  refine my_out_t (c := 1) (n := 13) (by omega) (by omega) (br_t rfl ?_)
  rw [e]
  refine pk_eq t 16 (fun e => by omega) (fun _ => ?_)
  exact br_t rfl (my_out_t (n := 3) h (by omega) (br_t rfl (br_f (by decide) (br_f (by decide) (br_f (by decide) (br_t (by decide) hw))))))
theorem my_tk1_f {post : Int32 → SY → Prop} {v : Int32} {t : Nat} (h : v < 0 ∨ (¬ v < 0 ∧ nI 3 ≤ v)) (ht : t < 16) (e : y_tokens 24 = nI t) (hp : post 0 (y_classes, y_supers, y_objects, y_specials, y_depth, y_ops, y_held, y_fault, y_steps, y_shownSteps, y_result, y_line, y_lineLength, y_has, y_sealed, y_initial, y_drafted, y_draftHas, y_draftInitial, y_lists, y_listLength, y_gone, y_classOfObject, y_slots, y_parameters, y_generic, y_single, y_special, y_kind, y_tokens, y_with, y_methodAt, y_pc, y_chosen, y_many, y_reached, y_opsAt, y_broken, y_arguments, y_operands, y_operator, y_got)) : wpY_token post (y_classes, y_supers, y_objects, y_specials, y_depth, y_ops, y_held, y_fault, y_steps, y_shownSteps, y_result, y_line, y_lineLength, y_has, y_sealed, y_initial, y_drafted, y_draftHas, y_draftInitial, y_lists, y_listLength, y_gone, y_classOfObject, y_slots, y_parameters, y_generic, y_single, y_special, y_kind, y_tokens, y_with, y_methodAt, y_pc, y_chosen, y_many, y_reached, y_opsAt, y_broken, y_arguments, y_operands, y_operator, y_got) 1 v := by
  unfold wpY_token
  refine my_out_t (c := 1) (n := 13) (by omega) (by omega) (br_t rfl ?_)
  rw [e]
  refine pk_eq t 16 (fun e => by omega) (fun _ => ?_)
  exact br_t rfl (my_out_f (q := 3) h (br_f (by decide) hp))
theorem my_tk2 {post : Int32 → SY → Prop} {v : Int32} {t : Nat} (ht : t < 16) (e : y_tokens 24 = nI t) (hw : wY_token_91 post 2 v y_classes y_supers y_objects y_specials y_depth y_ops y_held y_fault y_steps y_shownSteps y_result y_line y_lineLength y_has y_sealed y_initial y_drafted y_draftHas y_draftInitial y_lists y_listLength y_gone y_classOfObject y_slots y_parameters y_generic y_single y_special y_kind y_tokens y_with y_methodAt y_pc y_chosen y_many y_reached y_opsAt y_broken y_arguments y_operands y_operator y_got) : wpY_token post (y_classes, y_supers, y_objects, y_specials, y_depth, y_ops, y_held, y_fault, y_steps, y_shownSteps, y_result, y_line, y_lineLength, y_has, y_sealed, y_initial, y_drafted, y_draftHas, y_draftInitial, y_lists, y_listLength, y_gone, y_classOfObject, y_slots, y_parameters, y_generic, y_single, y_special, y_kind, y_tokens, y_with, y_methodAt, y_pc, y_chosen, y_many, y_reached, y_opsAt, y_broken, y_arguments, y_operands, y_operator, y_got) 2 v := by
  unfold wpY_token
  refine my_out_t (c := 2) (n := 13) (by omega) (by omega) (br_t rfl ?_)
  rw [e]
  refine pk_eq t 16 (fun e => by omega) (fun _ => ?_)
  exact br_f (by decide) (br_f (by decide) (br_f (by decide) (br_f (by decide) (br_t (by decide) hw))))
theorem my_tk3_t {post : Int32 → SY → Prop} {a t : Nat} (h : a < 5) (ht : t < 16) (e : y_tokens 24 = nI t) (hw : wY_token_91 post 3 (nI a) y_classes y_supers y_objects y_specials y_depth y_ops y_held y_fault y_steps y_shownSteps y_result y_line y_lineLength y_has y_sealed y_initial y_drafted y_draftHas y_draftInitial y_lists y_listLength y_gone y_classOfObject y_slots y_parameters y_generic y_single y_special y_kind y_tokens y_with y_methodAt y_pc y_chosen y_many y_reached y_opsAt y_broken y_arguments y_operands y_operator y_got) : wpY_token post (y_classes, y_supers, y_objects, y_specials, y_depth, y_ops, y_held, y_fault, y_steps, y_shownSteps, y_result, y_line, y_lineLength, y_has, y_sealed, y_initial, y_drafted, y_draftHas, y_draftInitial, y_lists, y_listLength, y_gone, y_classOfObject, y_slots, y_parameters, y_generic, y_single, y_special, y_kind, y_tokens, y_with, y_methodAt, y_pc, y_chosen, y_many, y_reached, y_opsAt, y_broken, y_arguments, y_operands, y_operator, y_got) 3 (nI a) := by
  unfold wpY_token
  refine my_out_t (c := 3) (n := 13) (by omega) (by omega) (br_t rfl ?_)
  rw [e]
  refine pk_eq t 16 (fun e => by omega) (fun _ => ?_)
  exact br_f (by decide) (br_t rfl (my_out_t (n := 5) h (by omega) (br_t rfl (br_f (by decide) (br_f (by decide) (br_t (by decide) hw))))))
theorem my_tk3_f {post : Int32 → SY → Prop} {v : Int32} {t : Nat} (h : v < 0 ∨ (¬ v < 0 ∧ nI 5 ≤ v)) (ht : t < 16) (e : y_tokens 24 = nI t) (hp : post 0 (y_classes, y_supers, y_objects, y_specials, y_depth, y_ops, y_held, y_fault, y_steps, y_shownSteps, y_result, y_line, y_lineLength, y_has, y_sealed, y_initial, y_drafted, y_draftHas, y_draftInitial, y_lists, y_listLength, y_gone, y_classOfObject, y_slots, y_parameters, y_generic, y_single, y_special, y_kind, y_tokens, y_with, y_methodAt, y_pc, y_chosen, y_many, y_reached, y_opsAt, y_broken, y_arguments, y_operands, y_operator, y_got)) : wpY_token post (y_classes, y_supers, y_objects, y_specials, y_depth, y_ops, y_held, y_fault, y_steps, y_shownSteps, y_result, y_line, y_lineLength, y_has, y_sealed, y_initial, y_drafted, y_draftHas, y_draftInitial, y_lists, y_listLength, y_gone, y_classOfObject, y_slots, y_parameters, y_generic, y_single, y_special, y_kind, y_tokens, y_with, y_methodAt, y_pc, y_chosen, y_many, y_reached, y_opsAt, y_broken, y_arguments, y_operands, y_operator, y_got) 3 v := by
  unfold wpY_token
  refine my_out_t (c := 3) (n := 13) (by omega) (by omega) (br_t rfl ?_)
  rw [e]
  refine pk_eq t 16 (fun e => by omega) (fun _ => ?_)
  exact br_f (by decide) (br_t rfl (my_out_f (q := 5) h (br_f (by decide) hp)))
theorem my_tk4_t {post : Int32 → SY → Prop} {a t : Nat} (h : a < 4) (ht : t < 16) (e : y_tokens 24 = nI t) (hw : wY_token_91 post 4 (nI a) y_classes y_supers y_objects y_specials y_depth y_ops y_held y_fault y_steps y_shownSteps y_result y_line y_lineLength y_has y_sealed y_initial y_drafted y_draftHas y_draftInitial y_lists y_listLength y_gone y_classOfObject y_slots y_parameters y_generic y_single y_special y_kind y_tokens y_with y_methodAt y_pc y_chosen y_many y_reached y_opsAt y_broken y_arguments y_operands y_operator y_got) : wpY_token post (y_classes, y_supers, y_objects, y_specials, y_depth, y_ops, y_held, y_fault, y_steps, y_shownSteps, y_result, y_line, y_lineLength, y_has, y_sealed, y_initial, y_drafted, y_draftHas, y_draftInitial, y_lists, y_listLength, y_gone, y_classOfObject, y_slots, y_parameters, y_generic, y_single, y_special, y_kind, y_tokens, y_with, y_methodAt, y_pc, y_chosen, y_many, y_reached, y_opsAt, y_broken, y_arguments, y_operands, y_operator, y_got) 4 (nI a) := by
  unfold wpY_token
  refine my_out_t (c := 4) (n := 13) (by omega) (by omega) (br_t rfl ?_)
  rw [e]
  refine pk_eq t 16 (fun e => by omega) (fun _ => ?_)
  exact br_f (by decide) (br_f (by decide) (br_t rfl (my_out_t (n := 4) h (by omega) (br_t rfl (br_t (by decide) hw)))))
theorem my_tk4_f {post : Int32 → SY → Prop} {v : Int32} {t : Nat} (h : v < 0 ∨ (¬ v < 0 ∧ nI 4 ≤ v)) (ht : t < 16) (e : y_tokens 24 = nI t) (hp : post 0 (y_classes, y_supers, y_objects, y_specials, y_depth, y_ops, y_held, y_fault, y_steps, y_shownSteps, y_result, y_line, y_lineLength, y_has, y_sealed, y_initial, y_drafted, y_draftHas, y_draftInitial, y_lists, y_listLength, y_gone, y_classOfObject, y_slots, y_parameters, y_generic, y_single, y_special, y_kind, y_tokens, y_with, y_methodAt, y_pc, y_chosen, y_many, y_reached, y_opsAt, y_broken, y_arguments, y_operands, y_operator, y_got)) : wpY_token post (y_classes, y_supers, y_objects, y_specials, y_depth, y_ops, y_held, y_fault, y_steps, y_shownSteps, y_result, y_line, y_lineLength, y_has, y_sealed, y_initial, y_drafted, y_draftHas, y_draftInitial, y_lists, y_listLength, y_gone, y_classOfObject, y_slots, y_parameters, y_generic, y_single, y_special, y_kind, y_tokens, y_with, y_methodAt, y_pc, y_chosen, y_many, y_reached, y_opsAt, y_broken, y_arguments, y_operands, y_operator, y_got) 4 v := by
  unfold wpY_token
  refine my_out_t (c := 4) (n := 13) (by omega) (by omega) (br_t rfl ?_)
  rw [e]
  refine pk_eq t 16 (fun e => by omega) (fun _ => ?_)
  exact br_f (by decide) (br_f (by decide) (br_t rfl (my_out_f (q := 4) h (br_f (by decide) hp))))
theorem my_tk5_t {post : Int32 → SY → Prop} {a t : Nat} (h : a < 4) (ht : t < 16) (e : y_tokens 24 = nI t) (hw : wY_token_91 post 5 (nI a) y_classes y_supers y_objects y_specials y_depth y_ops y_held y_fault y_steps y_shownSteps y_result y_line y_lineLength y_has y_sealed y_initial y_drafted y_draftHas y_draftInitial y_lists y_listLength y_gone y_classOfObject y_slots y_parameters y_generic y_single y_special y_kind y_tokens y_with y_methodAt y_pc y_chosen y_many y_reached y_opsAt y_broken y_arguments y_operands y_operator y_got) : wpY_token post (y_classes, y_supers, y_objects, y_specials, y_depth, y_ops, y_held, y_fault, y_steps, y_shownSteps, y_result, y_line, y_lineLength, y_has, y_sealed, y_initial, y_drafted, y_draftHas, y_draftInitial, y_lists, y_listLength, y_gone, y_classOfObject, y_slots, y_parameters, y_generic, y_single, y_special, y_kind, y_tokens, y_with, y_methodAt, y_pc, y_chosen, y_many, y_reached, y_opsAt, y_broken, y_arguments, y_operands, y_operator, y_got) 5 (nI a) := by
  unfold wpY_token
  refine my_out_t (c := 5) (n := 13) (by omega) (by omega) (br_t rfl ?_)
  rw [e]
  refine pk_eq t 16 (fun e => by omega) (fun _ => ?_)
  exact br_f (by decide) (br_f (by decide) (br_f (by decide) (br_t rfl (my_out_t (n := 4) h (by omega) (br_t rfl (br_t (by decide) hw))))))
theorem my_tk5_f {post : Int32 → SY → Prop} {v : Int32} {t : Nat} (h : v < 0 ∨ (¬ v < 0 ∧ nI 4 ≤ v)) (ht : t < 16) (e : y_tokens 24 = nI t) (hp : post 0 (y_classes, y_supers, y_objects, y_specials, y_depth, y_ops, y_held, y_fault, y_steps, y_shownSteps, y_result, y_line, y_lineLength, y_has, y_sealed, y_initial, y_drafted, y_draftHas, y_draftInitial, y_lists, y_listLength, y_gone, y_classOfObject, y_slots, y_parameters, y_generic, y_single, y_special, y_kind, y_tokens, y_with, y_methodAt, y_pc, y_chosen, y_many, y_reached, y_opsAt, y_broken, y_arguments, y_operands, y_operator, y_got)) : wpY_token post (y_classes, y_supers, y_objects, y_specials, y_depth, y_ops, y_held, y_fault, y_steps, y_shownSteps, y_result, y_line, y_lineLength, y_has, y_sealed, y_initial, y_drafted, y_draftHas, y_draftInitial, y_lists, y_listLength, y_gone, y_classOfObject, y_slots, y_parameters, y_generic, y_single, y_special, y_kind, y_tokens, y_with, y_methodAt, y_pc, y_chosen, y_many, y_reached, y_opsAt, y_broken, y_arguments, y_operands, y_operator, y_got) 5 v := by
  unfold wpY_token
  refine my_out_t (c := 5) (n := 13) (by omega) (by omega) (br_t rfl ?_)
  rw [e]
  refine pk_eq t 16 (fun e => by omega) (fun _ => ?_)
  exact br_f (by decide) (br_f (by decide) (br_f (by decide) (br_t rfl (my_out_f (q := 4) h (br_f (by decide) hp)))))
theorem my_tk6 {post : Int32 → SY → Prop} {v : Int32} {t : Nat} (ht : t < 16) (e : y_tokens 24 = nI t) (hw : wY_token_91 post 6 v y_classes y_supers y_objects y_specials y_depth y_ops y_held y_fault y_steps y_shownSteps y_result y_line y_lineLength y_has y_sealed y_initial y_drafted y_draftHas y_draftInitial y_lists y_listLength y_gone y_classOfObject y_slots y_parameters y_generic y_single y_special y_kind y_tokens y_with y_methodAt y_pc y_chosen y_many y_reached y_opsAt y_broken y_arguments y_operands y_operator y_got) : wpY_token post (y_classes, y_supers, y_objects, y_specials, y_depth, y_ops, y_held, y_fault, y_steps, y_shownSteps, y_result, y_line, y_lineLength, y_has, y_sealed, y_initial, y_drafted, y_draftHas, y_draftInitial, y_lists, y_listLength, y_gone, y_classOfObject, y_slots, y_parameters, y_generic, y_single, y_special, y_kind, y_tokens, y_with, y_methodAt, y_pc, y_chosen, y_many, y_reached, y_opsAt, y_broken, y_arguments, y_operands, y_operator, y_got) 6 v := by
  unfold wpY_token
  refine my_out_t (c := 6) (n := 13) (by omega) (by omega) (br_t rfl ?_)
  rw [e]
  refine pk_eq t 16 (fun e => by omega) (fun _ => ?_)
  exact br_f (by decide) (br_f (by decide) (br_f (by decide) (br_f (by decide) (br_t (by decide) hw))))
theorem my_tk7 {post : Int32 → SY → Prop} {v : Int32} {t : Nat} (ht : t < 16) (e : y_tokens 24 = nI t) (hw : wY_token_91 post 7 v y_classes y_supers y_objects y_specials y_depth y_ops y_held y_fault y_steps y_shownSteps y_result y_line y_lineLength y_has y_sealed y_initial y_drafted y_draftHas y_draftInitial y_lists y_listLength y_gone y_classOfObject y_slots y_parameters y_generic y_single y_special y_kind y_tokens y_with y_methodAt y_pc y_chosen y_many y_reached y_opsAt y_broken y_arguments y_operands y_operator y_got) : wpY_token post (y_classes, y_supers, y_objects, y_specials, y_depth, y_ops, y_held, y_fault, y_steps, y_shownSteps, y_result, y_line, y_lineLength, y_has, y_sealed, y_initial, y_drafted, y_draftHas, y_draftInitial, y_lists, y_listLength, y_gone, y_classOfObject, y_slots, y_parameters, y_generic, y_single, y_special, y_kind, y_tokens, y_with, y_methodAt, y_pc, y_chosen, y_many, y_reached, y_opsAt, y_broken, y_arguments, y_operands, y_operator, y_got) 7 v := by
  unfold wpY_token
  refine my_out_t (c := 7) (n := 13) (by omega) (by omega) (br_t rfl ?_)
  rw [e]
  refine pk_eq t 16 (fun e => by omega) (fun _ => ?_)
  exact br_f (by decide) (br_f (by decide) (br_f (by decide) (br_f (by decide) (br_t (by decide) hw))))
theorem my_tk8 {post : Int32 → SY → Prop} {v : Int32} {t : Nat} (ht : t < 16) (e : y_tokens 24 = nI t) (hw : wY_token_91 post 8 v y_classes y_supers y_objects y_specials y_depth y_ops y_held y_fault y_steps y_shownSteps y_result y_line y_lineLength y_has y_sealed y_initial y_drafted y_draftHas y_draftInitial y_lists y_listLength y_gone y_classOfObject y_slots y_parameters y_generic y_single y_special y_kind y_tokens y_with y_methodAt y_pc y_chosen y_many y_reached y_opsAt y_broken y_arguments y_operands y_operator y_got) : wpY_token post (y_classes, y_supers, y_objects, y_specials, y_depth, y_ops, y_held, y_fault, y_steps, y_shownSteps, y_result, y_line, y_lineLength, y_has, y_sealed, y_initial, y_drafted, y_draftHas, y_draftInitial, y_lists, y_listLength, y_gone, y_classOfObject, y_slots, y_parameters, y_generic, y_single, y_special, y_kind, y_tokens, y_with, y_methodAt, y_pc, y_chosen, y_many, y_reached, y_opsAt, y_broken, y_arguments, y_operands, y_operator, y_got) 8 v := by
  unfold wpY_token
  refine my_out_t (c := 8) (n := 13) (by omega) (by omega) (br_t rfl ?_)
  rw [e]
  refine pk_eq t 16 (fun e => by omega) (fun _ => ?_)
  exact br_f (by decide) (br_f (by decide) (br_f (by decide) (br_f (by decide) (br_t (by decide) hw))))
theorem my_tk9 {post : Int32 → SY → Prop} {v : Int32} {t : Nat} (ht : t < 16) (e : y_tokens 24 = nI t) (hw : wY_token_91 post 9 v y_classes y_supers y_objects y_specials y_depth y_ops y_held y_fault y_steps y_shownSteps y_result y_line y_lineLength y_has y_sealed y_initial y_drafted y_draftHas y_draftInitial y_lists y_listLength y_gone y_classOfObject y_slots y_parameters y_generic y_single y_special y_kind y_tokens y_with y_methodAt y_pc y_chosen y_many y_reached y_opsAt y_broken y_arguments y_operands y_operator y_got) : wpY_token post (y_classes, y_supers, y_objects, y_specials, y_depth, y_ops, y_held, y_fault, y_steps, y_shownSteps, y_result, y_line, y_lineLength, y_has, y_sealed, y_initial, y_drafted, y_draftHas, y_draftInitial, y_lists, y_listLength, y_gone, y_classOfObject, y_slots, y_parameters, y_generic, y_single, y_special, y_kind, y_tokens, y_with, y_methodAt, y_pc, y_chosen, y_many, y_reached, y_opsAt, y_broken, y_arguments, y_operands, y_operator, y_got) 9 v := by
  unfold wpY_token
  refine my_out_t (c := 9) (n := 13) (by omega) (by omega) (br_t rfl ?_)
  rw [e]
  refine pk_eq t 16 (fun e => by omega) (fun _ => ?_)
  exact br_f (by decide) (br_f (by decide) (br_f (by decide) (br_f (by decide) (br_t (by decide) hw))))
theorem my_tk10 {post : Int32 → SY → Prop} {v : Int32} {t : Nat} (ht : t < 16) (e : y_tokens 24 = nI t) (hw : wY_token_91 post 10 v y_classes y_supers y_objects y_specials y_depth y_ops y_held y_fault y_steps y_shownSteps y_result y_line y_lineLength y_has y_sealed y_initial y_drafted y_draftHas y_draftInitial y_lists y_listLength y_gone y_classOfObject y_slots y_parameters y_generic y_single y_special y_kind y_tokens y_with y_methodAt y_pc y_chosen y_many y_reached y_opsAt y_broken y_arguments y_operands y_operator y_got) : wpY_token post (y_classes, y_supers, y_objects, y_specials, y_depth, y_ops, y_held, y_fault, y_steps, y_shownSteps, y_result, y_line, y_lineLength, y_has, y_sealed, y_initial, y_drafted, y_draftHas, y_draftInitial, y_lists, y_listLength, y_gone, y_classOfObject, y_slots, y_parameters, y_generic, y_single, y_special, y_kind, y_tokens, y_with, y_methodAt, y_pc, y_chosen, y_many, y_reached, y_opsAt, y_broken, y_arguments, y_operands, y_operator, y_got) 10 v := by
  unfold wpY_token
  refine my_out_t (c := 10) (n := 13) (by omega) (by omega) (br_t rfl ?_)
  rw [e]
  refine pk_eq t 16 (fun e => by omega) (fun _ => ?_)
  exact br_f (by decide) (br_f (by decide) (br_f (by decide) (br_f (by decide) (br_t (by decide) hw))))
theorem my_tk11_t {post : Int32 → SY → Prop} {a t : Nat} {nc : Nat} (hn : nc ≤ 16) (h : a < nc) (ht : t < 16) (e : y_tokens 24 = nI t) (hw : wY_token_91 post 11 (nI a) (nI nc) y_supers y_objects y_specials y_depth y_ops y_held y_fault y_steps y_shownSteps y_result y_line y_lineLength y_has y_sealed y_initial y_drafted y_draftHas y_draftInitial y_lists y_listLength y_gone y_classOfObject y_slots y_parameters y_generic y_single y_special y_kind y_tokens y_with y_methodAt y_pc y_chosen y_many y_reached y_opsAt y_broken y_arguments y_operands y_operator y_got) : wpY_token post (nI nc, y_supers, y_objects, y_specials, y_depth, y_ops, y_held, y_fault, y_steps, y_shownSteps, y_result, y_line, y_lineLength, y_has, y_sealed, y_initial, y_drafted, y_draftHas, y_draftInitial, y_lists, y_listLength, y_gone, y_classOfObject, y_slots, y_parameters, y_generic, y_single, y_special, y_kind, y_tokens, y_with, y_methodAt, y_pc, y_chosen, y_many, y_reached, y_opsAt, y_broken, y_arguments, y_operands, y_operator, y_got) 11 (nI a) := by
  unfold wpY_token
  refine my_out_t (c := 11) (n := 13) (by omega) (by omega) (br_t rfl ?_)
  rw [e]
  refine pk_eq t 16 (fun e => by omega) (fun _ => ?_)
  exact br_f (by decide) (br_f (by decide) (br_f (by decide) (br_f (by decide) (br_f (by decide) (my_out_t h (by omega) (br_t rfl hw))))))
theorem my_tk11_f {post : Int32 → SY → Prop} {v : Int32} {t : Nat} {nc : Nat} (h : v < 0 ∨ (¬ v < 0 ∧ nI nc ≤ v)) (ht : t < 16) (e : y_tokens 24 = nI t) (hp : post 0 (nI nc, y_supers, y_objects, y_specials, y_depth, y_ops, y_held, y_fault, y_steps, y_shownSteps, y_result, y_line, y_lineLength, y_has, y_sealed, y_initial, y_drafted, y_draftHas, y_draftInitial, y_lists, y_listLength, y_gone, y_classOfObject, y_slots, y_parameters, y_generic, y_single, y_special, y_kind, y_tokens, y_with, y_methodAt, y_pc, y_chosen, y_many, y_reached, y_opsAt, y_broken, y_arguments, y_operands, y_operator, y_got)) : wpY_token post (nI nc, y_supers, y_objects, y_specials, y_depth, y_ops, y_held, y_fault, y_steps, y_shownSteps, y_result, y_line, y_lineLength, y_has, y_sealed, y_initial, y_drafted, y_draftHas, y_draftInitial, y_lists, y_listLength, y_gone, y_classOfObject, y_slots, y_parameters, y_generic, y_single, y_special, y_kind, y_tokens, y_with, y_methodAt, y_pc, y_chosen, y_many, y_reached, y_opsAt, y_broken, y_arguments, y_operands, y_operator, y_got) 11 v := by
  unfold wpY_token
  refine my_out_t (c := 11) (n := 13) (by omega) (by omega) (br_t rfl ?_)
  rw [e]
  refine pk_eq t 16 (fun e => by omega) (fun _ => ?_)
  exact br_f (by decide) (br_f (by decide) (br_f (by decide) (br_f (by decide) (br_f (by decide) (my_out_f h (br_f (by decide) hp))))))
theorem my_tk12_t {post : Int32 → SY → Prop} {a t : Nat} {nc : Nat} (hn : nc ≤ 16) (h : a < nc) (ht : t < 16) (e : y_tokens 24 = nI t) (hw : wY_token_91 post 12 (nI a) (nI nc) y_supers y_objects y_specials y_depth y_ops y_held y_fault y_steps y_shownSteps y_result y_line y_lineLength y_has y_sealed y_initial y_drafted y_draftHas y_draftInitial y_lists y_listLength y_gone y_classOfObject y_slots y_parameters y_generic y_single y_special y_kind y_tokens y_with y_methodAt y_pc y_chosen y_many y_reached y_opsAt y_broken y_arguments y_operands y_operator y_got) : wpY_token post (nI nc, y_supers, y_objects, y_specials, y_depth, y_ops, y_held, y_fault, y_steps, y_shownSteps, y_result, y_line, y_lineLength, y_has, y_sealed, y_initial, y_drafted, y_draftHas, y_draftInitial, y_lists, y_listLength, y_gone, y_classOfObject, y_slots, y_parameters, y_generic, y_single, y_special, y_kind, y_tokens, y_with, y_methodAt, y_pc, y_chosen, y_many, y_reached, y_opsAt, y_broken, y_arguments, y_operands, y_operator, y_got) 12 (nI a) := by
  unfold wpY_token
  refine my_out_t (c := 12) (n := 13) (by omega) (by omega) (br_t rfl ?_)
  rw [e]
  refine pk_eq t 16 (fun e => by omega) (fun _ => ?_)
  exact br_f (by decide) (br_f (by decide) (br_f (by decide) (br_f (by decide) (br_f (by decide) (my_out_t h (by omega) (br_t rfl hw))))))
theorem my_tk12_f {post : Int32 → SY → Prop} {v : Int32} {t : Nat} {nc : Nat} (h : v < 0 ∨ (¬ v < 0 ∧ nI nc ≤ v)) (ht : t < 16) (e : y_tokens 24 = nI t) (hp : post 0 (nI nc, y_supers, y_objects, y_specials, y_depth, y_ops, y_held, y_fault, y_steps, y_shownSteps, y_result, y_line, y_lineLength, y_has, y_sealed, y_initial, y_drafted, y_draftHas, y_draftInitial, y_lists, y_listLength, y_gone, y_classOfObject, y_slots, y_parameters, y_generic, y_single, y_special, y_kind, y_tokens, y_with, y_methodAt, y_pc, y_chosen, y_many, y_reached, y_opsAt, y_broken, y_arguments, y_operands, y_operator, y_got)) : wpY_token post (nI nc, y_supers, y_objects, y_specials, y_depth, y_ops, y_held, y_fault, y_steps, y_shownSteps, y_result, y_line, y_lineLength, y_has, y_sealed, y_initial, y_drafted, y_draftHas, y_draftInitial, y_lists, y_listLength, y_gone, y_classOfObject, y_slots, y_parameters, y_generic, y_single, y_special, y_kind, y_tokens, y_with, y_methodAt, y_pc, y_chosen, y_many, y_reached, y_opsAt, y_broken, y_arguments, y_operands, y_operator, y_got) 12 v := by
  unfold wpY_token
  refine my_out_t (c := 12) (n := 13) (by omega) (by omega) (br_t rfl ?_)
  rw [e]
  refine pk_eq t 16 (fun e => by omega) (fun _ => ?_)
  exact br_f (by decide) (br_f (by decide) (br_f (by decide) (br_f (by decide) (br_f (by decide) (my_out_f h (br_f (by decide) hp))))))
theorem my_tk_16 {post : Int32 → SY → Prop} {v : Int32} {q : Nat} (hq : q ≤ 12) (e : y_tokens 24 = nI 16) (hp : post 0 (y_classes, y_supers, y_objects, y_specials, y_depth, y_ops, y_held, y_fault, y_steps, y_shownSteps, y_result, y_line, y_lineLength, y_has, y_sealed, y_initial, y_drafted, y_draftHas, y_draftInitial, y_lists, y_listLength, y_gone, y_classOfObject, y_slots, y_parameters, y_generic, y_single, y_special, y_kind, y_tokens, y_with, y_methodAt, y_pc, y_chosen, y_many, y_reached, y_opsAt, y_broken, y_arguments, y_operands, y_operator, y_got)) : wpY_token post (y_classes, y_supers, y_objects, y_specials, y_depth, y_ops, y_held, y_fault, y_steps, y_shownSteps, y_result, y_line, y_lineLength, y_has, y_sealed, y_initial, y_drafted, y_draftHas, y_draftInitial, y_lists, y_listLength, y_gone, y_classOfObject, y_slots, y_parameters, y_generic, y_single, y_special, y_kind, y_tokens, y_with, y_methodAt, y_pc, y_chosen, y_many, y_reached, y_opsAt, y_broken, y_arguments, y_operands, y_operator, y_got) (nI q) v := by
  unfold wpY_token
  exact my_out_t (n := 13) (by omega) (by omega) (br_t rfl (br_t e hp))
theorem mx_token_t {post : Int32 → SX → Prop} {q t : Nat} {v : Int32} (ht : t < 16) (e : x_tokenCount 24 = nI t) (hk : ∀ p : Int32 → Prop, p 1 → wpX_isToken p (x_classCount, x_superCount, x_objectCount, x_draftSpecialCount, x_state, x_stepCount, x_latestValue, x_enterGeneric, x_enterPlace, x_frameCount, x_operatorCount, x_valueCount, x_lineClass, x_lineLength, x_isSealed, x_classHasSlot, x_classSlot, x_superDraft, x_objectClass, x_objectHasSlot, x_objectSlot, x_parameterCount, x_methodGeneric, x_specialiser, x_tokenKind, x_tokenValue, x_tokenCount, x_argument, x_rank, x_orderPlace, x_frameMethod, x_framePlace, x_frameToken, x_frameOperators, x_frameArgument, x_operatorKind, x_operatorValue, x_operatorLeft, x_workedOut) (nI q) v) (hp : post 1 (x_classCount, x_superCount, x_objectCount, x_draftSpecialCount, x_state, x_stepCount, x_latestValue, x_enterGeneric, x_enterPlace, x_frameCount, x_operatorCount, x_valueCount, x_lineClass, x_lineLength, x_isSealed, x_classHasSlot, x_classSlot, x_superDraft, x_objectClass, x_objectHasSlot, x_objectSlot, x_parameterCount, x_methodGeneric, x_specialiser, upd x_tokenKind (384 + t) (nI q), upd x_tokenValue (384 + t) v, upd x_tokenCount 24 (nI (t + 1)), x_argument, x_rank, x_orderPlace, x_frameMethod, x_framePlace, x_frameToken, x_frameOperators, x_frameArgument, x_operatorKind, x_operatorValue, x_operatorLeft, x_workedOut)) : wpX_token post (x_classCount, x_superCount, x_objectCount, x_draftSpecialCount, x_state, x_stepCount, x_latestValue, x_enterGeneric, x_enterPlace, x_frameCount, x_operatorCount, x_valueCount, x_lineClass, x_lineLength, x_isSealed, x_classHasSlot, x_classSlot, x_superDraft, x_objectClass, x_objectHasSlot, x_objectSlot, x_parameterCount, x_methodGeneric, x_specialiser, x_tokenKind, x_tokenValue, x_tokenCount, x_argument, x_rank, x_orderPlace, x_frameMethod, x_framePlace, x_frameToken, x_frameOperators, x_frameArgument, x_operatorKind, x_operatorValue, x_operatorLeft, x_workedOut) (nI q) v := by
  unfold wpX_token
  refine hk _ (br_f (by decide) ?_)
  rw [e]
  refine pk_eq t 16 (fun e => by omega) (fun _ => nm_r (bs_ad 384 t) ⟨pk_in (384 + t) 400 (by omega), nm_r ?_ ⟨pk_in (384 + t) 400 (by omega), nm_r ?_ (nm_r ?_ hp)⟩⟩)
  · rw [bs_clk (by omega)]
  · rw [bs_clk (by omega)]
  · rw [nI_1]
theorem mx_token_f {post : Int32 → SX → Prop} {k v : Int32} (hk : ∀ p : Int32 → Prop, p 0 → wpX_isToken p (x_classCount, x_superCount, x_objectCount, x_draftSpecialCount, x_state, x_stepCount, x_latestValue, x_enterGeneric, x_enterPlace, x_frameCount, x_operatorCount, x_valueCount, x_lineClass, x_lineLength, x_isSealed, x_classHasSlot, x_classSlot, x_superDraft, x_objectClass, x_objectHasSlot, x_objectSlot, x_parameterCount, x_methodGeneric, x_specialiser, x_tokenKind, x_tokenValue, x_tokenCount, x_argument, x_rank, x_orderPlace, x_frameMethod, x_framePlace, x_frameToken, x_frameOperators, x_frameArgument, x_operatorKind, x_operatorValue, x_operatorLeft, x_workedOut) k v) (hp : post 0 (x_classCount, x_superCount, x_objectCount, x_draftSpecialCount, x_state, x_stepCount, x_latestValue, x_enterGeneric, x_enterPlace, x_frameCount, x_operatorCount, x_valueCount, x_lineClass, x_lineLength, x_isSealed, x_classHasSlot, x_classSlot, x_superDraft, x_objectClass, x_objectHasSlot, x_objectSlot, x_parameterCount, x_methodGeneric, x_specialiser, x_tokenKind, x_tokenValue, x_tokenCount, x_argument, x_rank, x_orderPlace, x_frameMethod, x_framePlace, x_frameToken, x_frameOperators, x_frameArgument, x_operatorKind, x_operatorValue, x_operatorLeft, x_workedOut)) : wpX_token post (x_classCount, x_superCount, x_objectCount, x_draftSpecialCount, x_state, x_stepCount, x_latestValue, x_enterGeneric, x_enterPlace, x_frameCount, x_operatorCount, x_valueCount, x_lineClass, x_lineLength, x_isSealed, x_classHasSlot, x_classSlot, x_superDraft, x_objectClass, x_objectHasSlot, x_objectSlot, x_parameterCount, x_methodGeneric, x_specialiser, x_tokenKind, x_tokenValue, x_tokenCount, x_argument, x_rank, x_orderPlace, x_frameMethod, x_framePlace, x_frameToken, x_frameOperators, x_frameArgument, x_operatorKind, x_operatorValue, x_operatorLeft, x_workedOut) k v := by
  unfold wpX_token
  exact hk _ (br_t rfl hp)
theorem mx_token_16 {post : Int32 → SX → Prop} {k v : Int32} (e : x_tokenCount 24 = nI 16) (hk : (∀ p : Int32 → Prop, p 0 → wpX_isToken p (x_classCount, x_superCount, x_objectCount, x_draftSpecialCount, x_state, x_stepCount, x_latestValue, x_enterGeneric, x_enterPlace, x_frameCount, x_operatorCount, x_valueCount, x_lineClass, x_lineLength, x_isSealed, x_classHasSlot, x_classSlot, x_superDraft, x_objectClass, x_objectHasSlot, x_objectSlot, x_parameterCount, x_methodGeneric, x_specialiser, x_tokenKind, x_tokenValue, x_tokenCount, x_argument, x_rank, x_orderPlace, x_frameMethod, x_framePlace, x_frameToken, x_frameOperators, x_frameArgument, x_operatorKind, x_operatorValue, x_operatorLeft, x_workedOut) k v) ∨ (∀ p : Int32 → Prop, p 1 → wpX_isToken p (x_classCount, x_superCount, x_objectCount, x_draftSpecialCount, x_state, x_stepCount, x_latestValue, x_enterGeneric, x_enterPlace, x_frameCount, x_operatorCount, x_valueCount, x_lineClass, x_lineLength, x_isSealed, x_classHasSlot, x_classSlot, x_superDraft, x_objectClass, x_objectHasSlot, x_objectSlot, x_parameterCount, x_methodGeneric, x_specialiser, x_tokenKind, x_tokenValue, x_tokenCount, x_argument, x_rank, x_orderPlace, x_frameMethod, x_framePlace, x_frameToken, x_frameOperators, x_frameArgument, x_operatorKind, x_operatorValue, x_operatorLeft, x_workedOut) k v)) (hp : post 0 (x_classCount, x_superCount, x_objectCount, x_draftSpecialCount, x_state, x_stepCount, x_latestValue, x_enterGeneric, x_enterPlace, x_frameCount, x_operatorCount, x_valueCount, x_lineClass, x_lineLength, x_isSealed, x_classHasSlot, x_classSlot, x_superDraft, x_objectClass, x_objectHasSlot, x_objectSlot, x_parameterCount, x_methodGeneric, x_specialiser, x_tokenKind, x_tokenValue, x_tokenCount, x_argument, x_rank, x_orderPlace, x_frameMethod, x_framePlace, x_frameToken, x_frameOperators, x_frameArgument, x_operatorKind, x_operatorValue, x_operatorLeft, x_workedOut)) : wpX_token post (x_classCount, x_superCount, x_objectCount, x_draftSpecialCount, x_state, x_stepCount, x_latestValue, x_enterGeneric, x_enterPlace, x_frameCount, x_operatorCount, x_valueCount, x_lineClass, x_lineLength, x_isSealed, x_classHasSlot, x_classSlot, x_superDraft, x_objectClass, x_objectHasSlot, x_objectSlot, x_parameterCount, x_methodGeneric, x_specialiser, x_tokenKind, x_tokenValue, x_tokenCount, x_argument, x_rank, x_orderPlace, x_frameMethod, x_framePlace, x_frameToken, x_frameOperators, x_frameArgument, x_operatorKind, x_operatorValue, x_operatorLeft, x_workedOut) k v := by
  rcases hk with hk | hk
  · exact mx_token_f hk hp
  · unfold wpX_token
    exact hk _ (br_f (by decide) (br_t e hp))
end
section
variable {x_classCount : Int32} {x_superCount : Int32} {x_objectCount : Int32} {x_draftSpecialCount : Int32} {x_state : Int32} {x_stepCount : Int32} {x_latestValue : Int64} {x_enterGeneric : Int32} {x_enterPlace : Int32} {x_frameCount : Int32} {x_operatorCount : Int32} {x_valueCount : Int32} {x_lineClass : Nat → Int32} {x_lineLength : Nat → Int32} {x_isSealed : Nat → Int32} {x_classHasSlot : Nat → Int32} {x_classSlot : Nat → Int32} {x_superDraft : Nat → Int32} {x_objectClass : Nat → Int32} {x_objectHasSlot : Nat → Int32} {x_objectSlot : Nat → Int64} {x_parameterCount : Nat → Int32} {x_methodGeneric : Nat → Int32} {x_specialiser : Nat → Int64} {x_tokenKind : Nat → Int32} {x_tokenValue : Nat → Int32} {x_tokenCount : Nat → Int32} {x_argument : Nat → Int64} {x_rank : Nat → Int32} {x_orderPlace : Nat → Int32} {x_frameMethod : Nat → Int32} {x_framePlace : Nat → Int32} {x_frameToken : Nat → Int32} {x_frameOperators : Nat → Int32} {x_frameArgument : Nat → Int64} {x_operatorKind : Nat → Int32} {x_operatorValue : Nat → Int32} {x_operatorLeft : Nat → Int32} {x_workedOut : Nat → Int64} {y_classes : Int32} {y_supers : Int32} {y_objects : Int32} {y_specials : Int32} {y_depth : Int32} {y_ops : Int32} {y_held : Int32} {y_fault : Int32} {y_steps : Int32} {y_shownSteps : Int32} {y_result : Int64} {y_line : Nat → Int32} {y_lineLength : Nat → Int32} {y_has : Nat → Int32} {y_sealed : Nat → Int32} {y_initial : Nat → Int32} {y_drafted : Nat → Int32} {y_draftHas : Nat → Int32} {y_draftInitial : Nat → Int32} {y_lists : Nat → Int32} {y_listLength : Nat → Int32} {y_gone : Nat → Int32} {y_classOfObject : Nat → Int32} {y_slots : Nat → Int64} {y_parameters : Nat → Int32} {y_generic : Nat → Int32} {y_single : Nat → Int32} {y_special : Nat → Int64} {y_kind : Nat → Int32} {y_tokens : Nat → Int32} {y_with : Nat → Int32} {y_methodAt : Nat → Int32} {y_pc : Nat → Int32} {y_chosen : Nat → Int32} {y_many : Nat → Int32} {y_reached : Nat → Int32} {y_opsAt : Nat → Int32} {y_broken : Nat → Int32} {y_arguments : Nat → Int64} {y_operands : Nat → Int64} {y_operator : Nat → Int32} {y_got : Nat → Int32}
theorem ea_tk_any {q nc : Nat} (hq : q ≤ 12) (hn : nc ≤ 16) (v : Int32) :
    (rl_tk nc (nI q) v ∧ (∀ p : Int32 → Prop, p 1 → wpX_isToken p (nI nc, x_superCount, x_objectCount, x_draftSpecialCount, x_state, x_stepCount, x_latestValue, x_enterGeneric, x_enterPlace, x_frameCount, x_operatorCount, x_valueCount, x_lineClass, x_lineLength, x_isSealed, x_classHasSlot, x_classSlot, x_superDraft, x_objectClass, x_objectHasSlot, x_objectSlot, x_parameterCount, x_methodGeneric, x_specialiser, x_tokenKind, x_tokenValue, x_tokenCount, x_argument, x_rank, x_orderPlace, x_frameMethod, x_framePlace, x_frameToken, x_frameOperators, x_frameArgument, x_operatorKind, x_operatorValue, x_operatorLeft, x_workedOut) (nI q) v) ∧ (∀ (post : Int32 → SY → Prop) (t : Nat), t < 16 → y_tokens 24 = nI t → wY_token_91 post (nI q) v (nI nc) y_supers y_objects y_specials y_depth y_ops y_held y_fault y_steps y_shownSteps y_result y_line y_lineLength y_has y_sealed y_initial y_drafted y_draftHas y_draftInitial y_lists y_listLength y_gone y_classOfObject y_slots y_parameters y_generic y_single y_special y_kind y_tokens y_with y_methodAt y_pc y_chosen y_many y_reached y_opsAt y_broken y_arguments y_operands y_operator y_got → wpY_token post (nI nc, y_supers, y_objects, y_specials, y_depth, y_ops, y_held, y_fault, y_steps, y_shownSteps, y_result, y_line, y_lineLength, y_has, y_sealed, y_initial, y_drafted, y_draftHas, y_draftInitial, y_lists, y_listLength, y_gone, y_classOfObject, y_slots, y_parameters, y_generic, y_single, y_special, y_kind, y_tokens, y_with, y_methodAt, y_pc, y_chosen, y_many, y_reached, y_opsAt, y_broken, y_arguments, y_operands, y_operator, y_got) (nI q) v)) ∨
    ((∀ p : Int32 → Prop, p 0 → wpX_isToken p (nI nc, x_superCount, x_objectCount, x_draftSpecialCount, x_state, x_stepCount, x_latestValue, x_enterGeneric, x_enterPlace, x_frameCount, x_operatorCount, x_valueCount, x_lineClass, x_lineLength, x_isSealed, x_classHasSlot, x_classSlot, x_superDraft, x_objectClass, x_objectHasSlot, x_objectSlot, x_parameterCount, x_methodGeneric, x_specialiser, x_tokenKind, x_tokenValue, x_tokenCount, x_argument, x_rank, x_orderPlace, x_frameMethod, x_framePlace, x_frameToken, x_frameOperators, x_frameArgument, x_operatorKind, x_operatorValue, x_operatorLeft, x_workedOut) (nI q) v) ∧ (∀ (post : Int32 → SY → Prop) (t : Nat), t < 16 → y_tokens 24 = nI t → post 0 (nI nc, y_supers, y_objects, y_specials, y_depth, y_ops, y_held, y_fault, y_steps, y_shownSteps, y_result, y_line, y_lineLength, y_has, y_sealed, y_initial, y_drafted, y_draftHas, y_draftInitial, y_lists, y_listLength, y_gone, y_classOfObject, y_slots, y_parameters, y_generic, y_single, y_special, y_kind, y_tokens, y_with, y_methodAt, y_pc, y_chosen, y_many, y_reached, y_opsAt, y_broken, y_arguments, y_operands, y_operator, y_got) → wpY_token post (nI nc, y_supers, y_objects, y_specials, y_depth, y_ops, y_held, y_fault, y_steps, y_shownSteps, y_result, y_line, y_lineLength, y_has, y_sealed, y_initial, y_drafted, y_draftHas, y_draftInitial, y_lists, y_listLength, y_gone, y_classOfObject, y_slots, y_parameters, y_generic, y_single, y_special, y_kind, y_tokens, y_with, y_methodAt, y_pc, y_chosen, y_many, y_reached, y_opsAt, y_broken, y_arguments, y_operands, y_operator, y_got) (nI q) v)) := by
  have hs : q = 0 ∨ q = 1 ∨ q = 2 ∨ q = 3 ∨ q = 4 ∨ q = 5 ∨ q = 6 ∨ q = 7 ∨ q = 8 ∨ q = 9 ∨ q = 10 ∨ q = 11 ∨ q = 12 := by omega
  rcases hs with rfl | rfl | rfl | rfl | rfl | rfl | rfl | rfl | rfl | rfl | rfl | rfl | rfl
  · exact Or.inl ⟨⟨0, by omega, rfl, fun z => by omega, fun z => by omega, fun z => by omega, fun z => by omega⟩, fun p hp => mx_tk0 hp, fun post t ht e hw => my_tk0 ht e hw⟩
  · rcases bs_ar2 v (n := 3) (by omega) with h | ⟨a, h, rfl⟩
    · exact Or.inr ⟨fun p hp => mx_tk1_f h hp, fun post t ht e hp => my_tk1_f h ht e hp⟩
    · exact Or.inl ⟨⟨1, by omega, rfl, fun _ => ⟨a, h, rfl⟩, fun z => by omega, fun z => by omega, fun z => by omega⟩, fun p hp => mx_tk1_t h hp, fun post t ht e hw => my_tk1_t h ht e hw⟩
  · exact Or.inl ⟨⟨2, by omega, rfl, fun z => by omega, fun z => by omega, fun z => by omega, fun z => by omega⟩, fun p hp => mx_tk2 hp, fun post t ht e hw => my_tk2 ht e hw⟩
  · rcases bs_ar2 v (n := 5) (by omega) with h | ⟨a, h, rfl⟩
    · exact Or.inr ⟨fun p hp => mx_tk3_f h hp, fun post t ht e hp => my_tk3_f h ht e hp⟩
    · exact Or.inl ⟨⟨3, by omega, rfl, fun z => by omega, fun _ => ⟨a, h, rfl⟩, fun z => by omega, fun z => by omega⟩, fun p hp => mx_tk3_t h hp, fun post t ht e hw => my_tk3_t h ht e hw⟩
  · rcases bs_ar2 v (n := 4) (by omega) with h | ⟨a, h, rfl⟩
    · exact Or.inr ⟨fun p hp => mx_tk4_f h hp, fun post t ht e hp => my_tk4_f h ht e hp⟩
    · exact Or.inl ⟨⟨4, by omega, rfl, fun z => by omega, fun z => by omega, fun _ => ⟨a, h, rfl⟩, fun z => by omega⟩, fun p hp => mx_tk4_t h hp, fun post t ht e hw => my_tk4_t h ht e hw⟩
  · rcases bs_ar2 v (n := 4) (by omega) with h | ⟨a, h, rfl⟩
    · exact Or.inr ⟨fun p hp => mx_tk5_f h hp, fun post t ht e hp => my_tk5_f h ht e hp⟩
    · exact Or.inl ⟨⟨5, by omega, rfl, fun z => by omega, fun z => by omega, fun _ => ⟨a, h, rfl⟩, fun z => by omega⟩, fun p hp => mx_tk5_t h hp, fun post t ht e hw => my_tk5_t h ht e hw⟩
  · exact Or.inl ⟨⟨6, by omega, rfl, fun z => by omega, fun z => by omega, fun z => by omega, fun z => by omega⟩, fun p hp => mx_tk6 hp, fun post t ht e hw => my_tk6 ht e hw⟩
  · exact Or.inl ⟨⟨7, by omega, rfl, fun z => by omega, fun z => by omega, fun z => by omega, fun z => by omega⟩, fun p hp => mx_tk7 hp, fun post t ht e hw => my_tk7 ht e hw⟩
  · exact Or.inl ⟨⟨8, by omega, rfl, fun z => by omega, fun z => by omega, fun z => by omega, fun z => by omega⟩, fun p hp => mx_tk8 hp, fun post t ht e hw => my_tk8 ht e hw⟩
  · exact Or.inl ⟨⟨9, by omega, rfl, fun z => by omega, fun z => by omega, fun z => by omega, fun z => by omega⟩, fun p hp => mx_tk9 hp, fun post t ht e hw => my_tk9 ht e hw⟩
  · exact Or.inl ⟨⟨10, by omega, rfl, fun z => by omega, fun z => by omega, fun z => by omega, fun z => by omega⟩, fun p hp => mx_tk10 hp, fun post t ht e hw => my_tk10 ht e hw⟩
  · rcases bs_ar2 v (n := nc) (by omega) with h | ⟨a, h, rfl⟩
    · exact Or.inr ⟨fun p hp => mx_tk11_f h hp, fun post t ht e hp => my_tk11_f h ht e hp⟩
    · exact Or.inl ⟨⟨11, by omega, rfl, fun z => by omega, fun z => by omega, fun z => by omega, fun _ => ⟨a, h, rfl⟩⟩, fun p hp => mx_tk11_t hn h hp, fun post t ht e hw => my_tk11_t hn h ht e hw⟩
  · rcases bs_ar2 v (n := nc) (by omega) with h | ⟨a, h, rfl⟩
    · exact Or.inr ⟨fun p hp => mx_tk12_f h hp, fun post t ht e hp => my_tk12_f h ht e hp⟩
    · exact Or.inl ⟨⟨12, by omega, rfl, fun z => by omega, fun z => by omega, fun z => by omega, fun _ => ⟨a, h, rfl⟩⟩, fun p hp => mx_tk12_t hn h hp, fun post t ht e hw => my_tk12_t hn h ht e hw⟩
end
theorem i_vc_token {k : Nat} {u : SX} {v : SY} (I : i_Rel k u v) (hk : k + 9 ≤ 4608) (v1 : Int32) (v2 : Int32) : wpX_token (fun r u' => wpY_token (fun r' v' => r' = r ∧ i_Rel (k + 9) u' v') v v1 v2) u v1 v2 := by
  obtain ⟨x_classCount, x_superCount, x_objectCount, x_draftSpecialCount, x_state, x_stepCount, x_latestValue, x_enterGeneric, x_enterPlace, x_frameCount, x_operatorCount, x_valueCount, x_lineClass, x_lineLength, x_isSealed, x_classHasSlot, x_classSlot, x_superDraft, x_objectClass, x_objectHasSlot, x_objectSlot, x_parameterCount, x_methodGeneric, x_specialiser, x_tokenKind, x_tokenValue, x_tokenCount, x_argument, x_rank, x_orderPlace, x_frameMethod, x_framePlace, x_frameToken, x_frameOperators, x_frameArgument, x_operatorKind, x_operatorValue, x_operatorLeft, x_workedOut⟩ := u
  obtain ⟨y_classes, y_supers, y_objects, y_specials, y_depth, y_ops, y_held, y_fault, y_steps, y_shownSteps, y_result, y_line, y_lineLength, y_has, y_sealed, y_initial, y_drafted, y_draftHas, y_draftInitial, y_lists, y_listLength, y_gone, y_classOfObject, y_slots, y_parameters, y_generic, y_single, y_special, y_kind, y_tokens, y_with, y_methodAt, y_pc, y_chosen, y_many, y_reached, y_opsAt, y_broken, y_arguments, y_operands, y_operator, y_got⟩ := v
  obtain ⟨nc, no, ns, nd, rfl, rfl, rfl, rfl, rfl, rfl, rfl, rfl, rfl, rfl, rfl, rfl, rfl, rfl, rfl, rfl, rfl, rfl, rfl, rfl, hcls, hsup, hslt, hobj, hpar, hgen, htok, hbod, hspc, hunq⟩ := I
  have J : i_Rel (k + 9) (nI nc, nI ns, nI no, nI nd, x_state, x_stepCount, x_latestValue, x_enterGeneric, x_enterPlace, x_frameCount, x_operatorCount, x_valueCount, x_lineClass, x_lineLength, x_isSealed, x_classHasSlot, x_classSlot, x_superDraft, x_objectClass, x_objectHasSlot, x_objectSlot, x_parameterCount, x_methodGeneric, x_specialiser, x_tokenKind, x_tokenValue, x_tokenCount, x_argument, x_rank, x_orderPlace, x_frameMethod, x_framePlace, x_frameToken, x_frameOperators, x_frameArgument, x_operatorKind, x_operatorValue, x_operatorLeft, x_workedOut) (nI nc, nI ns, nI no, nI nd, y_depth, y_ops, y_held, y_fault, y_steps, x_stepCount, x_latestValue, x_lineClass, x_lineLength, y_has, x_isSealed, y_initial, x_superDraft, y_draftHas, y_draftInitial, y_lists, y_listLength, y_gone, x_objectClass, y_slots, x_parameterCount, x_methodGeneric, y_single, y_special, x_tokenKind, x_tokenCount, x_tokenValue, y_methodAt, y_pc, y_chosen, y_many, y_reached, y_opsAt, y_broken, y_arguments, y_operands, y_operator, y_got) := ⟨nc, no, ns, nd, rfl, rfl, rfl, rfl, rfl, rfl, rfl, rfl, rfl, rfl, rfl, rfl, rfl, rfl, rfl, rfl, rfl, rfl, rfl, rfl, hcls, hsup, hslt, hobj, hpar, hgen, htok, hbod, hspc, hunq⟩
  have hn : nc ≤ 16 := hcls.2.1
  obtain ⟨t, ht, et, htt⟩ := htok 24 (by omega)
  rcases bs_ar2 v1 (n := 13) (by omega) with h | ⟨q, hq, rfl⟩
  · refine mx_token_f (fun p hp => ?_) ?_
    · unfold wpX_isToken
      rcases h with h | ⟨h1, h2⟩
      · exact br_t h hp
      · refine br_f h1 (br_t ?_ hp)
        exact Int32.lt_of_lt_of_le (show (12 : Int32) < nI 13 by decide) h2
    · unfold wpY_token
      exact my_out_f (q := 13) h (br_f (by decide) ⟨rfl, J⟩)
  · by_cases h16 : t = 16
    · subst h16
      refine mx_token_16 et ?_ (my_tk_16 (by omega) et ⟨rfl, J⟩)
      rcases ea_tk_any (x_superCount := nI ns) (x_objectCount := nI no) (x_draftSpecialCount := nI nd) (x_state := x_state) (x_stepCount := x_stepCount) (x_latestValue := x_latestValue) (x_enterGeneric := x_enterGeneric) (x_enterPlace := x_enterPlace) (x_frameCount := x_frameCount) (x_operatorCount := x_operatorCount) (x_valueCount := x_valueCount) (x_lineClass := x_lineClass) (x_lineLength := x_lineLength) (x_isSealed := x_isSealed) (x_classHasSlot := x_classHasSlot) (x_classSlot := x_classSlot) (x_superDraft := x_superDraft) (x_objectClass := x_objectClass) (x_objectHasSlot := x_objectHasSlot) (x_objectSlot := x_objectSlot) (x_parameterCount := x_parameterCount) (x_methodGeneric := x_methodGeneric) (x_specialiser := x_specialiser) (x_tokenKind := x_tokenKind) (x_tokenValue := x_tokenValue) (x_tokenCount := x_tokenCount) (x_argument := x_argument) (x_rank := x_rank) (x_orderPlace := x_orderPlace) (x_frameMethod := x_frameMethod) (x_framePlace := x_framePlace) (x_frameToken := x_frameToken) (x_frameOperators := x_frameOperators) (x_frameArgument := x_frameArgument) (x_operatorKind := x_operatorKind) (x_operatorValue := x_operatorValue) (x_operatorLeft := x_operatorLeft) (x_workedOut := x_workedOut) (y_supers := nI ns) (y_objects := nI no) (y_specials := nI nd) (y_depth := y_depth) (y_ops := y_ops) (y_held := y_held) (y_fault := y_fault) (y_steps := y_steps) (y_shownSteps := x_stepCount) (y_result := x_latestValue) (y_line := x_lineClass) (y_lineLength := x_lineLength) (y_has := y_has) (y_sealed := x_isSealed) (y_initial := y_initial) (y_drafted := x_superDraft) (y_draftHas := y_draftHas) (y_draftInitial := y_draftInitial) (y_lists := y_lists) (y_listLength := y_listLength) (y_gone := y_gone) (y_classOfObject := x_objectClass) (y_slots := y_slots) (y_parameters := x_parameterCount) (y_generic := x_methodGeneric) (y_single := y_single) (y_special := y_special) (y_kind := x_tokenKind) (y_tokens := x_tokenCount) (y_with := x_tokenValue) (y_methodAt := y_methodAt) (y_pc := y_pc) (y_chosen := y_chosen) (y_many := y_many) (y_reached := y_reached) (y_opsAt := y_opsAt) (y_broken := y_broken) (y_arguments := y_arguments) (y_operands := y_operands) (y_operator := y_operator) (y_got := y_got) (q := q) (nc := nc) (by omega) hn v2 with ⟨_, h, _⟩ | ⟨h, _⟩
      · exact Or.inr h
      · exact Or.inl h
    · rcases ea_tk_any (x_superCount := nI ns) (x_objectCount := nI no) (x_draftSpecialCount := nI nd) (x_state := x_state) (x_stepCount := x_stepCount) (x_latestValue := x_latestValue) (x_enterGeneric := x_enterGeneric) (x_enterPlace := x_enterPlace) (x_frameCount := x_frameCount) (x_operatorCount := x_operatorCount) (x_valueCount := x_valueCount) (x_lineClass := x_lineClass) (x_lineLength := x_lineLength) (x_isSealed := x_isSealed) (x_classHasSlot := x_classHasSlot) (x_classSlot := x_classSlot) (x_superDraft := x_superDraft) (x_objectClass := x_objectClass) (x_objectHasSlot := x_objectHasSlot) (x_objectSlot := x_objectSlot) (x_parameterCount := x_parameterCount) (x_methodGeneric := x_methodGeneric) (x_specialiser := x_specialiser) (x_tokenKind := x_tokenKind) (x_tokenValue := x_tokenValue) (x_tokenCount := x_tokenCount) (x_argument := x_argument) (x_rank := x_rank) (x_orderPlace := x_orderPlace) (x_frameMethod := x_frameMethod) (x_framePlace := x_framePlace) (x_frameToken := x_frameToken) (x_frameOperators := x_frameOperators) (x_frameArgument := x_frameArgument) (x_operatorKind := x_operatorKind) (x_operatorValue := x_operatorValue) (x_operatorLeft := x_operatorLeft) (x_workedOut := x_workedOut) (y_supers := nI ns) (y_objects := nI no) (y_specials := nI nd) (y_depth := y_depth) (y_ops := y_ops) (y_held := y_held) (y_fault := y_fault) (y_steps := y_steps) (y_shownSteps := x_stepCount) (y_result := x_latestValue) (y_line := x_lineClass) (y_lineLength := x_lineLength) (y_has := y_has) (y_sealed := x_isSealed) (y_initial := y_initial) (y_drafted := x_superDraft) (y_draftHas := y_draftHas) (y_draftInitial := y_draftInitial) (y_lists := y_lists) (y_listLength := y_listLength) (y_gone := y_gone) (y_classOfObject := x_objectClass) (y_slots := y_slots) (y_parameters := x_parameterCount) (y_generic := x_methodGeneric) (y_single := y_single) (y_special := y_special) (y_kind := x_tokenKind) (y_tokens := x_tokenCount) (y_with := x_tokenValue) (y_methodAt := y_methodAt) (y_pc := y_pc) (y_chosen := y_chosen) (y_many := y_many) (y_reached := y_reached) (y_opsAt := y_opsAt) (y_broken := y_broken) (y_arguments := y_arguments) (y_operands := y_operands) (y_operator := y_operator) (y_got := y_got) (q := q) (nc := nc) (by omega) hn v2 with ⟨htk, hX, hY⟩ | ⟨hX, hY⟩
      · refine mx_token_t (t := t) (by omega) et hX (hY _ t (by omega) et (my_token_91 (by omega) (by omega) et ⟨rfl, ?_⟩))
        refine ⟨nc, no, ns, nd, rfl, rfl, rfl, rfl, rfl, rfl, rfl, rfl, rfl, rfl, rfl, rfl, rfl, rfl, rfl, rfl, rfl, rfl, rfl, rfl, hcls, hsup, hslt, hobj, hpar, hgen, ea_tok_d htok (by omega) et htk, ea_bod_c hbod (fun m g hm hg _ => ⟨pk_un (by omega), fun i hi => ⟨pk_un (by omega), pk_un (by omega)⟩⟩), hspc, hunq⟩
      · exact mx_token_f hX (hY _ t (by omega) et ⟨rfl, J⟩)
end
section
/-! generic -/
def ge_bc (TK TV : Nat → Int32) (m t g : Nat) : Prop := ∃ i, i < t ∧ TK (16 * m + i) = 3 ∧ TV (16 * m + i) = nI g
def ge_p (MG TK TV TC : Nat → Int32) (g m : Nat) : Prop := MG m = nI g ∨ (¬ MG m = -1 ∧ ge_bc TK TV m (TC m).toNatClampNeg g)
theorem ge_ar_c {PC PC' : Nat → Int32} {k v : Int32} (h : k = 3 → PC' v.toNatClampNeg = PC v.toNatClampNeg) : rl_ar PC' k v = rl_ar PC k v := by
  unfold rl_ar
  by_cases e : k = 3
  · rw [if_pos e, if_pos e, h e]
  · rw [if_neg e, if_neg e]
section
variable {x_classCount : Int32} {x_superCount : Int32} {x_objectCount : Int32} {x_draftSpecialCount : Int32} {x_state : Int32} {x_stepCount : Int32} {x_latestValue : Int64} {x_enterGeneric : Int32} {x_enterPlace : Int32} {x_frameCount : Int32} {x_operatorCount : Int32} {x_valueCount : Int32} {x_lineClass : Nat → Int32} {x_lineLength : Nat → Int32} {x_isSealed : Nat → Int32} {x_classHasSlot : Nat → Int32} {x_classSlot : Nat → Int32} {x_superDraft : Nat → Int32} {x_objectClass : Nat → Int32} {x_objectHasSlot : Nat → Int32} {x_objectSlot : Nat → Int64} {x_parameterCount : Nat → Int32} {x_methodGeneric : Nat → Int32} {x_specialiser : Nat → Int64} {x_tokenKind : Nat → Int32} {x_tokenValue : Nat → Int32} {x_tokenCount : Nat → Int32} {x_argument : Nat → Int64} {x_rank : Nat → Int32} {x_orderPlace : Nat → Int32} {x_frameMethod : Nat → Int32} {x_framePlace : Nat → Int32} {x_frameToken : Nat → Int32} {x_frameOperators : Nat → Int32} {x_frameArgument : Nat → Int64} {x_operatorKind : Nat → Int32} {x_operatorValue : Nat → Int32} {x_operatorLeft : Nat → Int32} {x_workedOut : Nat → Int64} {y_classes : Int32} {y_supers : Int32} {y_objects : Int32} {y_specials : Int32} {y_depth : Int32} {y_ops : Int32} {y_held : Int32} {y_fault : Int32} {y_steps : Int32} {y_shownSteps : Int32} {y_result : Int64} {y_line : Nat → Int32} {y_lineLength : Nat → Int32} {y_has : Nat → Int32} {y_sealed : Nat → Int32} {y_initial : Nat → Int32} {y_drafted : Nat → Int32} {y_draftHas : Nat → Int32} {y_draftInitial : Nat → Int32} {y_lists : Nat → Int32} {y_listLength : Nat → Int32} {y_gone : Nat → Int32} {y_classOfObject : Nat → Int32} {y_slots : Nat → Int64} {y_parameters : Nat → Int32} {y_generic : Nat → Int32} {y_single : Nat → Int32} {y_special : Nat → Int64} {y_kind : Nat → Int32} {y_tokens : Nat → Int32} {y_with : Nat → Int32} {y_methodAt : Nat → Int32} {y_pc : Nat → Int32} {y_chosen : Nat → Int32} {y_many : Nat → Int32} {y_reached : Nat → Int32} {y_opsAt : Nat → Int32} {y_broken : Nat → Int32} {y_arguments : Nat → Int64} {y_operands : Nat → Int64} {y_operator : Nat → Int32} {y_got : Nat → Int32}
theorem mx_bodyCalls {post : Int32 → Prop} {m t g : Nat} (hm : m < 24) (ht : t ≤ 16) (et : x_tokenCount m = nI t) (h0 : (x_methodGeneric m = -1 ∨ ¬ ge_bc x_tokenKind x_tokenValue m t g) → post 0) (h1 : ¬ x_methodGeneric m = -1 → ge_bc x_tokenKind x_tokenValue m t g → post 1) : wpX_bodyCalls post (x_classCount, x_superCount, x_objectCount, x_draftSpecialCount, x_state, x_stepCount, x_latestValue, x_enterGeneric, x_enterPlace, x_frameCount, x_operatorCount, x_valueCount, x_lineClass, x_lineLength, x_isSealed, x_classHasSlot, x_classSlot, x_superDraft, x_objectClass, x_objectHasSlot, x_objectSlot, x_parameterCount, x_methodGeneric, x_specialiser, x_tokenKind, x_tokenValue, x_tokenCount, x_argument, x_rank, x_orderPlace, x_frameMethod, x_framePlace, x_frameToken, x_frameOperators, x_frameArgument, x_operatorKind, x_operatorValue, x_operatorLeft, x_workedOut) (nI m) (nI g) := by
  unfold wpX_bodyCalls
  refine ⟨pk_in m 24 hm, ?_⟩
  rw [bs_clk (n := m) (by omega)]
  refine br_c (fun e => h0 (Or.inl e)) (fun hne => ?_)
  refine loop_0 (σ := Unit) (fun n i _ => wX_bodyCalls_14 post (nI m) (nI g) x_classCount x_superCount x_objectCount x_draftSpecialCount x_state x_stepCount x_latestValue x_enterGeneric x_enterPlace x_frameCount x_operatorCount x_valueCount x_lineClass x_lineLength x_isSealed x_classHasSlot x_classSlot x_superDraft x_objectClass x_objectHasSlot x_objectSlot x_parameterCount x_methodGeneric x_specialiser x_tokenKind x_tokenValue x_tokenCount x_argument x_rank x_orderPlace x_frameMethod x_framePlace x_frameToken x_frameOperators x_frameArgument x_operatorKind x_operatorValue x_operatorLeft x_workedOut n (nI i)) (fun i _ => ∀ j, j < i → ¬ (x_tokenKind (16 * m + j) = 3 ∧ x_tokenValue (16 * m + j) = nI g)) t () lt_0 ?_ ?_
  · intro n _ hI
    refine ⟨pk_in m 25 (by omega), ?_⟩
    rw [bs_clk (n := m) (by omega), et]
    refine br_t (nI_le (Nat.le_refl _) (by omega)) (h0 (Or.inr ?_))
    rintro ⟨i, hi, h⟩
    exact hI i hi h
  · intro n i _ hi hI k
    refine ⟨pk_in m 25 (by omega), ?_⟩
    rw [bs_clk (n := m) (by omega), et]
    refine br_f (nI_ge hi (by omega)) (nm_r (bs_xi 16 m i) ⟨pk_in (16 * m + i) 400 (by omega), ?_⟩)
    rw [bs_clk (n := 16 * m + i) (by omega)]
    refine br_c (fun e3 => ⟨pk_in (16 * m + i) 400 (by omega), br_c (fun eg => h1 hne ⟨i, hi, e3, eg⟩) (fun ng => nm_r (nI_1 i) (k () (lt_s hI (fun z => ng z.2))))⟩) (fun n3 => nm_r (nI_1 i) (k () (lt_s hI (fun z => n3 z.1))))
theorem mx_generic {post : Int32 → SX → Prop} {nc g p : Nat} (htok : rl_tok nc x_tokenKind x_tokenValue x_tokenCount) (hg : g < 5) (h1 : 1 ≤ p) (h3 : p ≤ 3) (hs : (∃ m, m < 24 ∧ ge_p x_methodGeneric x_tokenKind x_tokenValue x_tokenCount g m) → post (-3) (x_classCount, x_superCount, x_objectCount, x_draftSpecialCount, x_state, x_stepCount, x_latestValue, x_enterGeneric, x_enterPlace, x_frameCount, x_operatorCount, x_valueCount, x_lineClass, x_lineLength, x_isSealed, x_classHasSlot, x_classSlot, x_superDraft, x_objectClass, x_objectHasSlot, x_objectSlot, x_parameterCount, x_methodGeneric, x_specialiser, x_tokenKind, x_tokenValue, x_tokenCount, x_argument, x_rank, x_orderPlace, x_frameMethod, x_framePlace, x_frameToken, x_frameOperators, x_frameArgument, x_operatorKind, x_operatorValue, x_operatorLeft, x_workedOut)) (hw : (∀ m, m < 24 → ¬ ge_p x_methodGeneric x_tokenKind x_tokenValue x_tokenCount g m) → post 0 (x_classCount, x_superCount, x_objectCount, x_draftSpecialCount, x_state, x_stepCount, x_latestValue, x_enterGeneric, x_enterPlace, x_frameCount, x_operatorCount, x_valueCount, x_lineClass, x_lineLength, x_isSealed, x_classHasSlot, x_classSlot, x_superDraft, x_objectClass, x_objectHasSlot, x_objectSlot, upd x_parameterCount g (nI p), x_methodGeneric, x_specialiser, x_tokenKind, x_tokenValue, x_tokenCount, x_argument, x_rank, x_orderPlace, x_frameMethod, x_framePlace, x_frameToken, x_frameOperators, x_frameArgument, x_operatorKind, x_operatorValue, x_operatorLeft, x_workedOut)) : wpX_generic post (x_classCount, x_superCount, x_objectCount, x_draftSpecialCount, x_state, x_stepCount, x_latestValue, x_enterGeneric, x_enterPlace, x_frameCount, x_operatorCount, x_valueCount, x_lineClass, x_lineLength, x_isSealed, x_classHasSlot, x_classSlot, x_superDraft, x_objectClass, x_objectHasSlot, x_objectSlot, x_parameterCount, x_methodGeneric, x_specialiser, x_tokenKind, x_tokenValue, x_tokenCount, x_argument, x_rank, x_orderPlace, x_frameMethod, x_framePlace, x_frameToken, x_frameOperators, x_frameArgument, x_operatorKind, x_operatorValue, x_operatorLeft, x_workedOut) (nI g) (nI p) := by
  unfold wpX_generic
  refine mx_isGeneric_t hg (br_f (by decide) (pk_lt p 1 (fun z => by omega) (fun _ => pk_le p 3 (fun _ => ?_) (fun z => by omega))))
  refine loop_0 (σ := Unit) (fun n i _ => wX_generic_22 post (nI g) (nI p) x_classCount x_superCount x_objectCount x_draftSpecialCount x_state x_stepCount x_latestValue x_enterGeneric x_enterPlace x_frameCount x_operatorCount x_valueCount x_lineClass x_lineLength x_isSealed x_classHasSlot x_classSlot x_superDraft x_objectClass x_objectHasSlot x_objectSlot x_parameterCount x_methodGeneric x_specialiser x_tokenKind x_tokenValue x_tokenCount x_argument x_rank x_orderPlace x_frameMethod x_framePlace x_frameToken x_frameOperators x_frameArgument x_operatorKind x_operatorValue x_operatorLeft x_workedOut n (nI i)) (fun i _ => ∀ j, j < i → ¬ ge_p x_methodGeneric x_tokenKind x_tokenValue x_tokenCount g j) 24 () lt_0 ?_ ?_
  · intro n _ hI
    refine br_t (nI_le (Nat.le_refl _) (by omega)) ⟨pk_in g 5 hg, nm_r ?_ (hw hI)⟩
    rw [bs_clk (by omega)]
  · intro n i _ hi hI k
    refine br_f (nI_ge (b := 24) hi (by omega)) ⟨pk_in i 24 hi, ?_⟩
    rw [bs_clk (n := i) (by omega)]
    refine br_c (fun e => hs ⟨i, hi, Or.inl e⟩) (fun ne => ?_)
    obtain ⟨t, ht, et, _⟩ := htok i (by omega)
    have ect : (x_tokenCount i).toNatClampNeg = t := by rw [et, bs_clk (by omega)]
    refine mx_bodyCalls hi ht et (fun h => br_t rfl (nm_r (nI_1 i) (k () (lt_s hI ?_)))) (fun ha hb => br_f (by decide) (hs ⟨i, hi, Or.inr ⟨ha, by rw [ect]; exact hb⟩⟩))
    rintro (z | ⟨z1, z2⟩)
    · exact ne z
    · rw [ect] at z2
      exact h.elim z1 (fun w => w z2)
theorem my_generic {post : Int32 → SY → Prop} {nc g p : Nat} (htok : rl_tok nc y_kind y_with y_tokens) (hgen : rl_gen y_generic) (hg : g < 5) (h1 : 1 ≤ p) (h3 : p ≤ 3) (hs : (∃ m, m < 24 ∧ ge_p y_generic y_kind y_with y_tokens g m) → post (-3) (y_classes, y_supers, y_objects, y_specials, y_depth, y_ops, y_held, y_fault, y_steps, y_shownSteps, y_result, y_line, y_lineLength, y_has, y_sealed, y_initial, y_drafted, y_draftHas, y_draftInitial, y_lists, y_listLength, y_gone, y_classOfObject, y_slots, y_parameters, y_generic, y_single, y_special, y_kind, y_tokens, y_with, y_methodAt, y_pc, y_chosen, y_many, y_reached, y_opsAt, y_broken, y_arguments, y_operands, y_operator, y_got)) (hw : (∀ m, m < 24 → ¬ ge_p y_generic y_kind y_with y_tokens g m) → post 0 (y_classes, y_supers, y_objects, y_specials, y_depth, y_ops, y_held, y_fault, y_steps, y_shownSteps, y_result, y_line, y_lineLength, y_has, y_sealed, y_initial, y_drafted, y_draftHas, y_draftInitial, y_lists, y_listLength, y_gone, y_classOfObject, y_slots, upd y_parameters g (nI p), y_generic, y_single, y_special, y_kind, y_tokens, y_with, y_methodAt, y_pc, y_chosen, y_many, y_reached, y_opsAt, y_broken, y_arguments, y_operands, y_operator, y_got)) : wpY_generic post (y_classes, y_supers, y_objects, y_specials, y_depth, y_ops, y_held, y_fault, y_steps, y_shownSteps, y_result, y_line, y_lineLength, y_has, y_sealed, y_initial, y_drafted, y_draftHas, y_draftInitial, y_lists, y_listLength, y_gone, y_classOfObject, y_slots, y_parameters, y_generic, y_single, y_special, y_kind, y_tokens, y_with, y_methodAt, y_pc, y_chosen, y_many, y_reached, y_opsAt, y_broken, y_arguments, y_operands, y_operator, y_got) (nI g) (nI p) := by
  unfold wpY_generic
  refine my_out_t (n := 5) hg (by omega) (br_t rfl (pk_lt p 1 (fun z => by omega) (fun _ => pk_le p 3 (fun _ => ?_) (fun z => by omega))))
  refine loop_0 (σ := Unit) (fun n i _ => wY_generic_23 post (nI g) (nI p) y_classes y_supers y_objects y_specials y_depth y_ops y_held y_fault y_steps y_shownSteps y_result y_line y_lineLength y_has y_sealed y_initial y_drafted y_draftHas y_draftInitial y_lists y_listLength y_gone y_classOfObject y_slots y_parameters y_generic y_single y_special y_kind y_tokens y_with y_methodAt y_pc y_chosen y_many y_reached y_opsAt y_broken y_arguments y_operands y_operator y_got n (nI i)) (fun i _ => ∀ j, j < i → ¬ ge_p y_generic y_kind y_with y_tokens g j) 24 () lt_0 ?_ ?_
  · intro n _ hI
    refine br_t (nI_le (Nat.le_refl _) (by omega)) ⟨pk_in g 5 hg, nm_r ?_ (hw hI)⟩
    rw [bs_clk (by omega), bs_vb8 (by omega)]
  · intro n m _ hm hI k
    refine br_f (nI_ge (b := 24) hm (by omega)) ⟨pk_in m 24 hm, ?_⟩
    rw [bs_clk (n := m) (by omega)]
    refine br_c (fun e => hs ⟨m, hm, Or.inl e⟩) (fun ne => ?_)
    obtain ⟨t, ht, et, _⟩ := htok m (by omega)
    have ect : (y_tokens m).toNatClampNeg = t := by rw [et, bs_clk (by omega)]
    refine loop_0 (σ := Unit) (fun n' i _ => wY_generic_45 post (wY_generic_23 post (nI g) (nI p) y_classes y_supers y_objects y_specials y_depth y_ops y_held y_fault y_steps y_shownSteps y_result y_line y_lineLength y_has y_sealed y_initial y_drafted y_draftHas y_draftInitial y_lists y_listLength y_gone y_classOfObject y_slots y_parameters y_generic y_single y_special y_kind y_tokens y_with y_methodAt y_pc y_chosen y_many y_reached y_opsAt y_broken y_arguments y_operands y_operator y_got n) (nI g) (nI p) (nI m) y_classes y_supers y_objects y_specials y_depth y_ops y_held y_fault y_steps y_shownSteps y_result y_line y_lineLength y_has y_sealed y_initial y_drafted y_draftHas y_draftInitial y_lists y_listLength y_gone y_classOfObject y_slots y_parameters y_generic y_single y_special y_kind y_tokens y_with y_methodAt y_pc y_chosen y_many y_reached y_opsAt y_broken y_arguments y_operands y_operator y_got n' (nI i)) (fun i _ => ∀ j, j < i → ¬ (y_kind (16 * m + j) = 3 ∧ y_with (16 * m + j) = nI g)) t () lt_0 ?_ ?_
    · intro n' _ hJ
      refine ⟨pk_in m 25 (by omega), ?_⟩
      rw [bs_clk (n := m) (by omega), et]
      refine br_t (nI_le (Nat.le_refl _) (by omega)) (nm_r (nI_1 m) (k () (lt_s hI ?_)))
      rintro (z | ⟨_, i, hi, z⟩)
      · exact ne z
      · rw [ect] at hi
        exact hJ i hi z
    · intro n' i _ hi hJ k'
      refine ⟨pk_in m 25 (by omega), ?_⟩
      rw [bs_clk (n := m) (by omega), et]
      refine br_f (nI_ge hi (by omega)) ⟨pk_in m 24 hm, ?_⟩
      rcases hgen m hm with em | ⟨g', hg', em⟩
      · rw [em]
        refine br_t (by decide) (nm_r (nI_1 m) (k () (lt_s hI ?_)))
        rintro (z | ⟨z, _⟩)
        · exact ne z
        · exact z em
      · rw [em]
        refine br_f (nI_pos (by omega)) ⟨pk_in (16 * m + i) 400 (by omega) (bs_ix 16 m i), ?_⟩
        rw [bs_ix 16 m i, bs_clk (n := 16 * m + i) (by omega)]
        refine br_c (fun e3 => ⟨pk_in (16 * m + i) 400 (by omega), br_c (fun eg => hs ⟨m, hm, Or.inr ⟨by rw [em]; exact bs_n1 (by omega), i, by rw [ect]; exact hi, e3, eg⟩⟩) (fun ng => nm_r (nI_1 i) (k' () (lt_s hJ (fun z => ng z.2))))⟩) (fun n3 => nm_r (nI_1 i) (k' () (lt_s hJ (fun z => n3 z.1))))
end
theorem i_vc_generic {k : Nat} {u : SX} {v : SY} (I : i_Rel k u v) (hk : k + 9 ≤ 4608) (v1 : Int32) (v2 : Int32) : wpX_generic (fun r u' => wpY_generic (fun r' v' => r' = r ∧ i_Rel (k + 9) u' v') v v1 v2) u v1 v2 := by
  obtain ⟨x_classCount, x_superCount, x_objectCount, x_draftSpecialCount, x_state, x_stepCount, x_latestValue, x_enterGeneric, x_enterPlace, x_frameCount, x_operatorCount, x_valueCount, x_lineClass, x_lineLength, x_isSealed, x_classHasSlot, x_classSlot, x_superDraft, x_objectClass, x_objectHasSlot, x_objectSlot, x_parameterCount, x_methodGeneric, x_specialiser, x_tokenKind, x_tokenValue, x_tokenCount, x_argument, x_rank, x_orderPlace, x_frameMethod, x_framePlace, x_frameToken, x_frameOperators, x_frameArgument, x_operatorKind, x_operatorValue, x_operatorLeft, x_workedOut⟩ := u
  obtain ⟨y_classes, y_supers, y_objects, y_specials, y_depth, y_ops, y_held, y_fault, y_steps, y_shownSteps, y_result, y_line, y_lineLength, y_has, y_sealed, y_initial, y_drafted, y_draftHas, y_draftInitial, y_lists, y_listLength, y_gone, y_classOfObject, y_slots, y_parameters, y_generic, y_single, y_special, y_kind, y_tokens, y_with, y_methodAt, y_pc, y_chosen, y_many, y_reached, y_opsAt, y_broken, y_arguments, y_operands, y_operator, y_got⟩ := v
  obtain ⟨nc, no, ns, nd, rfl, rfl, rfl, rfl, rfl, rfl, rfl, rfl, rfl, rfl, rfl, rfl, rfl, rfl, rfl, rfl, rfl, rfl, rfl, rfl, hcls, hsup, hslt, hobj, hpar, hgen, htok, hbod, hspc, hunq⟩ := I
  have J : i_Rel (k + 9) (nI nc, nI ns, nI no, nI nd, x_state, x_stepCount, x_latestValue, x_enterGeneric, x_enterPlace, x_frameCount, x_operatorCount, x_valueCount, x_lineClass, x_lineLength, x_isSealed, x_classHasSlot, x_classSlot, x_superDraft, x_objectClass, x_objectHasSlot, x_objectSlot, x_parameterCount, x_methodGeneric, x_specialiser, x_tokenKind, x_tokenValue, x_tokenCount, x_argument, x_rank, x_orderPlace, x_frameMethod, x_framePlace, x_frameToken, x_frameOperators, x_frameArgument, x_operatorKind, x_operatorValue, x_operatorLeft, x_workedOut) (nI nc, nI ns, nI no, nI nd, y_depth, y_ops, y_held, y_fault, y_steps, x_stepCount, x_latestValue, x_lineClass, x_lineLength, y_has, x_isSealed, y_initial, x_superDraft, y_draftHas, y_draftInitial, y_lists, y_listLength, y_gone, x_objectClass, y_slots, x_parameterCount, x_methodGeneric, y_single, y_special, x_tokenKind, x_tokenCount, x_tokenValue, y_methodAt, y_pc, y_chosen, y_many, y_reached, y_opsAt, y_broken, y_arguments, y_operands, y_operator, y_got) := ⟨nc, no, ns, nd, rfl, rfl, rfl, rfl, rfl, rfl, rfl, rfl, rfl, rfl, rfl, rfl, rfl, rfl, rfl, rfl, rfl, rfl, rfl, rfl, hcls, hsup, hslt, hobj, hpar, hgen, htok, hbod, hspc, hunq⟩
  rcases bs_ar2 v1 (n := 5) (by omega) with h | ⟨g, hg, rfl⟩
  · unfold wpX_generic
    refine mx_isGeneric_f h (br_t rfl ?_)
    unfold wpY_generic
    exact my_out_f (q := 5) h (br_f (by decide) ⟨rfl, J⟩)
  · by_cases h1 : v2 < 1
    · unfold wpX_generic
      refine mx_isGeneric_t hg (br_f (by decide) (br_t h1 ?_))
      unfold wpY_generic
      exact my_out_t (n := 5) hg (by omega) (br_t rfl (br_t h1 ⟨rfl, J⟩))
    · by_cases h3 : v2 ≤ 3
      · obtain ⟨p, hp, rfl⟩ := nI_of2 (x := v2) (M := 3) (n := 3) (by decide) (fun z => h1 (Int32.lt_trans z (by decide))) h3
        rw [show (1 : Int32) = nI 1 from rfl, nI_ltI (by omega) (by omega)] at h1
        refine mx_generic htok hg (by omega) hp (fun hs => ?_) (fun hw => ?_)
        · exact my_generic htok hgen hg (by omega) hp (fun _ => ⟨rfl, J⟩) (fun hw => by obtain ⟨m, hm, h⟩ := hs; exact absurd h (hw m hm))
        · refine my_generic htok hgen hg (by omega) hp (fun hs => by obtain ⟨m, hm, h⟩ := hs; exact absurd h (hw m hm)) (fun _ => ⟨rfl, ?_⟩)
          refine ⟨nc, no, ns, nd, rfl, rfl, rfl, rfl, rfl, rfl, rfl, rfl, rfl, rfl, rfl, rfl, rfl, rfl, rfl, rfl, rfl, rfl, rfl, rfl, hcls, hsup, hslt, hobj, fun g' hg' => ?_, hgen, htok, ?_, ?_, ?_⟩
          · by_cases e : g' = g
            · rw [e, pk_us]; exact ⟨p, by omega, hp, rfl⟩
            · rw [pk_un e]; exact hpar g' hg'
          · intro m g' p' t hm hg' hp' ht h1' h2' h3'
            have eg : g' ≠ g := fun z => hw m hm (Or.inl (by rw [h1', z]))
            rw [pk_un eg] at h2'
            obtain ⟨b1, b2⟩ := hbod m g' p' t hm hg' hp' ht h1' h2' h3'
            refine ⟨b1, ea_pn_c t 0 1 (fun i _ hi => (ge_ar_c (fun e3 => ?_)).symm) b2⟩
            have ect : (x_tokenCount m).toNatClampNeg = t := by rw [h3', bs_clk (by omega)]
            refine pk_un (fun z => hw m hm (Or.inr ⟨by rw [h1']; exact bs_n1 (by omega), i, by rw [ect]; omega, e3, ?_⟩))
            obtain ⟨t', ht', et', htk⟩ := htok m (by omega)
            rw [h3'] at et'
            have := bs_inj (by omega) (by omega) et'
            obtain ⟨q, hq, eq, _, hq3, _⟩ := htk i (by omega)
            rw [e3] at eq
            have hq3' : q = 3 := (bs_inj (a := 3) (by omega) (by omega) eq).symm
            obtain ⟨a, ha, ea⟩ := hq3 hq3'
            rw [ea, bs_clk (by omega)] at z
            rw [ea, z]
          · refine ⟨hspc.1, hspc.2.1, fun m g' p' hm hg' hp' h1' h2' => ?_⟩
            have eg : g' ≠ g := fun z => hw m hm (Or.inl (by rw [h1', z]))
            rw [pk_un eg] at h2'
            exact hspc.2.2 m g' p' hm hg' hp' h1' h2'
          · intro m n g' p' hm hn hg' hp' h1' h2' h3' h4'
            have eg : g' ≠ g := fun z => hw m hm (Or.inl (by rw [h1', z]))
            rw [pk_un eg] at h3'
            exact hunq m n g' p' hm hn hg' hp' h1' h2' h3' h4'
      · unfold wpX_generic
        refine mx_isGeneric_t hg (br_f (by decide) (br_f h1 (br_f h3 ?_)))
        unfold wpY_generic
        exact my_out_t (n := 5) hg (by omega) (br_t rfl (br_f h1 (br_f h3 ⟨rfl, J⟩)))
end
section
/-! make -/
def mk_p (LC CH : Nat → Int32) (c n : Nat) (k : Nat) : Prop := ¬ CH (4 * (LC (16 * c + k)).toNatClampNeg + n) = 0
noncomputable def mk_own (LC CH : Nat → Int32) (c l n : Nat) : Int32 := bs_ci (bs_fi (mk_p LC CH c n) l < l) (LC (16 * c + bs_fi (mk_p LC CH c n) l)) (-1)
theorem mk_own_at {LC CH : Nat → Int32} {c l n i : Nat} (hi : i < l) (hp : mk_p LC CH c n i) (hj : ∀ j, j < i → ¬ mk_p LC CH c n j) : mk_own LC CH c l n = LC (16 * c + i) := by
  unfold mk_own
  rw [bs_fi_at hi hp hj, bs_ct hi]
theorem mk_own_no {LC CH : Nat → Int32} {c l n : Nat} (hj : ∀ j, j < l → ¬ mk_p LC CH c n j) : mk_own LC CH c l n = -1 := by
  unfold mk_own
  rw [bs_fi_no hj, bs_cf (Nat.lt_irrefl _)]
theorem mk_own_c {nc : Nat} {LC LL CH HA : Nat → Int32} (h : rl_cls nc LC LL) (hh : ∀ j, j < 4 * nc → HA j = CH j) {c l n : Nat} (hc : c < nc) (hl : l ≤ 16) (el : LL c = nI l) (hn : n < 4) : mk_own LC HA c l n = mk_own LC CH c l n := by
  obtain ⟨l', hl', el', hk⟩ := h.2.2 c hc
  rw [el] at el'
  have e := bs_inj (by omega) (by omega) el'
  subst e
  have hf : bs_fi (mk_p LC HA c n) l = bs_fi (mk_p LC CH c n) l := by
    refine bs_fi_c (fun j hj => ?_)
    obtain ⟨e, he, ee⟩ := hk j hj
    have hn16 := h.2.1
    unfold mk_p
    rw [ee, bs_clk (by omega), hh _ (by omega)]
  unfold mk_own
  rw [hf]
/-- the owner: none, or a class that has the slot -/
theorem mk_own_x {nc : Nat} {LC LL CH : Nat → Int32} (h : rl_cls nc LC LL) {c l n : Nat} (hc : c < nc) (hl : l ≤ 16) (el : LL c = nI l) : mk_own LC CH c l n = -1 ∨ ∃ e, e < nc ∧ mk_own LC CH c l n = nI e ∧ ¬ CH (4 * e + n) = 0 := by
  obtain ⟨l', hl', el', hk⟩ := h.2.2 c hc
  rw [el] at el'
  have e := bs_inj (by omega) (by omega) el'
  subst e
  by_cases a : bs_fi (mk_p LC CH c n) l < l
  · obtain ⟨e, he, ee⟩ := hk _ a
    have hp := bs_fi_p a
    unfold mk_p at hp
    have hn16 := h.2.1
    refine Or.inr ⟨e, he, ?_, ?_⟩
    · unfold mk_own
      rw [bs_ct a, ee]
    · intro z
      apply hp
      have := ee
      unfold mk_p at this
      rw [this, bs_clk (by omega)]
      exact z
  · exact Or.inl (by unfold mk_own; rw [bs_cf a])
def mk_PX (LC CH CS OH : Nat → Int32) (OS : Nat → Int64) (c l no : Nat) (OH' : Nat → Int32) (OS' : Nat → Int64) (i : Nat) : Prop := (∀ j, j < 4 * no → OH' j = OH j ∧ OS' j = OS j) ∧ ∀ n, n < i → (mk_own LC CH c l n = -1 ∧ OH' (4 * no + n) = 0) ∨ (∃ e, e < 16 ∧ mk_own LC CH c l n = nI e ∧ OH' (4 * no + n) = 1 ∧ OS' (4 * no + n) = (CS (4 * e + n)).toInt64)
def mk_PY (LC HA IN : Nat → Int32) (SL : Nat → Int64) (c l no : Nat) (SL' : Nat → Int64) (i : Nat) : Prop := (∀ j, j < 4 * no → SL' j = SL j) ∧ ∀ n, n < i → (mk_own LC HA c l n = -1 ∧ SL' (4 * no + n) = -9223372036854775808) ∨ (∃ e, e < 16 ∧ mk_own LC HA c l n = nI e ∧ SL' (4 * no + n) = (IN (4 * e + n)).toInt64)
section
variable {x_classCount : Int32} {x_superCount : Int32} {x_objectCount : Int32} {x_draftSpecialCount : Int32} {x_state : Int32} {x_stepCount : Int32} {x_latestValue : Int64} {x_enterGeneric : Int32} {x_enterPlace : Int32} {x_frameCount : Int32} {x_operatorCount : Int32} {x_valueCount : Int32} {x_lineClass : Nat → Int32} {x_lineLength : Nat → Int32} {x_isSealed : Nat → Int32} {x_classHasSlot : Nat → Int32} {x_classSlot : Nat → Int32} {x_superDraft : Nat → Int32} {x_objectClass : Nat → Int32} {x_objectHasSlot : Nat → Int32} {x_objectSlot : Nat → Int64} {x_parameterCount : Nat → Int32} {x_methodGeneric : Nat → Int32} {x_specialiser : Nat → Int64} {x_tokenKind : Nat → Int32} {x_tokenValue : Nat → Int32} {x_tokenCount : Nat → Int32} {x_argument : Nat → Int64} {x_rank : Nat → Int32} {x_orderPlace : Nat → Int32} {x_frameMethod : Nat → Int32} {x_framePlace : Nat → Int32} {x_frameToken : Nat → Int32} {x_frameOperators : Nat → Int32} {x_frameArgument : Nat → Int64} {x_operatorKind : Nat → Int32} {x_operatorValue : Nat → Int32} {x_operatorLeft : Nat → Int32} {x_workedOut : Nat → Int64} {y_classes : Int32} {y_supers : Int32} {y_objects : Int32} {y_specials : Int32} {y_depth : Int32} {y_ops : Int32} {y_held : Int32} {y_fault : Int32} {y_steps : Int32} {y_shownSteps : Int32} {y_result : Int64} {y_line : Nat → Int32} {y_lineLength : Nat → Int32} {y_has : Nat → Int32} {y_sealed : Nat → Int32} {y_initial : Nat → Int32} {y_drafted : Nat → Int32} {y_draftHas : Nat → Int32} {y_draftInitial : Nat → Int32} {y_lists : Nat → Int32} {y_listLength : Nat → Int32} {y_gone : Nat → Int32} {y_classOfObject : Nat → Int32} {y_slots : Nat → Int64} {y_parameters : Nat → Int32} {y_generic : Nat → Int32} {y_single : Nat → Int32} {y_special : Nat → Int64} {y_kind : Nat → Int32} {y_tokens : Nat → Int32} {y_with : Nat → Int32} {y_methodAt : Nat → Int32} {y_pc : Nat → Int32} {y_chosen : Nat → Int32} {y_many : Nat → Int32} {y_reached : Nat → Int32} {y_opsAt : Nat → Int32} {y_broken : Nat → Int32} {y_arguments : Nat → Int64} {y_operands : Nat → Int64} {y_operator : Nat → Int32} {y_got : Nat → Int32}
theorem mx_slotOwner {post : Int32 → Prop} {nc c l n : Nat} (h : rl_cls nc x_lineClass x_lineLength) (hc : c < nc) (hl : l ≤ 16) (el : x_lineLength c = nI l) (hn : n < 4) (hp : post (mk_own x_lineClass x_classHasSlot c l n)) : wpX_slotOwner post (x_classCount, x_superCount, x_objectCount, x_draftSpecialCount, x_state, x_stepCount, x_latestValue, x_enterGeneric, x_enterPlace, x_frameCount, x_operatorCount, x_valueCount, x_lineClass, x_lineLength, x_isSealed, x_classHasSlot, x_classSlot, x_superDraft, x_objectClass, x_objectHasSlot, x_objectSlot, x_parameterCount, x_methodGeneric, x_specialiser, x_tokenKind, x_tokenValue, x_tokenCount, x_argument, x_rank, x_orderPlace, x_frameMethod, x_framePlace, x_frameToken, x_frameOperators, x_frameArgument, x_operatorKind, x_operatorValue, x_operatorLeft, x_workedOut) (nI c) (nI n) := by
  have hn16 := h.2.1
  obtain ⟨l', hl', el', hk⟩ := h.2.2 c hc
  rw [el] at el'
  have e := bs_inj (by omega) (by omega) el'
  subst e
  unfold wpX_slotOwner
  refine loop_0 (σ := Unit) (fun n' i _ => wX_slotOwner_2 post (nI c) (nI n) x_classCount x_superCount x_objectCount x_draftSpecialCount x_state x_stepCount x_latestValue x_enterGeneric x_enterPlace x_frameCount x_operatorCount x_valueCount x_lineClass x_lineLength x_isSealed x_classHasSlot x_classSlot x_superDraft x_objectClass x_objectHasSlot x_objectSlot x_parameterCount x_methodGeneric x_specialiser x_tokenKind x_tokenValue x_tokenCount x_argument x_rank x_orderPlace x_frameMethod x_framePlace x_frameToken x_frameOperators x_frameArgument x_operatorKind x_operatorValue x_operatorLeft x_workedOut n' (nI i)) (fun i _ => ∀ j, j < i → ¬ mk_p x_lineClass x_classHasSlot c n j) l () lt_0 ?_ ?_
  · intro n' _ hI
    refine ⟨pk_in c 16 (by omega), ?_⟩
    rw [bs_clk (n := c) (by omega), el]
    rw [mk_own_no hI] at hp
    exact br_t (nI_le (Nat.le_refl _) (by omega)) hp
  · intro n' i _ hi hI k
    refine ⟨pk_in c 16 (by omega), ?_⟩
    rw [bs_clk (n := c) (by omega), el]
    obtain ⟨e, he, ee⟩ := hk i hi
    refine br_f (nI_ge hi (by omega)) ⟨pk_in (16 * c + i) 256 (by omega) (bs_xi 16 c i), nm_r (e' := nI e) (by rw [bs_xi 16 c i, bs_clk (by omega), ee]) ⟨pk_in (4 * e + n) 68 (by omega) (bs_xi 4 e n), ?_⟩⟩
    rw [bs_xi 4 e n, bs_clk (n := 4 * e + n) (by omega)]
    have hpp : mk_p x_lineClass x_classHasSlot c n i ↔ ¬ x_classHasSlot (4 * e + n) = 0 := by
      unfold mk_p; rw [ee, bs_clk (by omega)]
    refine br_c (fun z => nm_r (nI_1 i) (k () (lt_s hI (fun w => hpp.mp w z)))) (fun z => ?_)
    rw [mk_own_at hi (hpp.mpr z) hI, ee] at hp
    exact hp
theorem my_giver {post : Int32 → Prop} {nc c l n : Nat} (h : rl_cls nc y_line y_lineLength) (hc : c < nc) (hl : l ≤ 16) (el : y_lineLength c = nI l) (hn : n < 4) (hp : post (mk_own y_line y_has c l n)) : wpY_giver post (y_classes, y_supers, y_objects, y_specials, y_depth, y_ops, y_held, y_fault, y_steps, y_shownSteps, y_result, y_line, y_lineLength, y_has, y_sealed, y_initial, y_drafted, y_draftHas, y_draftInitial, y_lists, y_listLength, y_gone, y_classOfObject, y_slots, y_parameters, y_generic, y_single, y_special, y_kind, y_tokens, y_with, y_methodAt, y_pc, y_chosen, y_many, y_reached, y_opsAt, y_broken, y_arguments, y_operands, y_operator, y_got) (nI c) (nI n) := by
  have hn16 := h.2.1
  obtain ⟨l', hl', el', hk⟩ := h.2.2 c hc
  rw [el] at el'
  have e := bs_inj (by omega) (by omega) el'
  subst e
  unfold wpY_giver
  refine loop_0 (σ := Unit) (fun n' i _ => wY_giver_2 post (nI c) (nI n) y_classes y_supers y_objects y_specials y_depth y_ops y_held y_fault y_steps y_shownSteps y_result y_line y_lineLength y_has y_sealed y_initial y_drafted y_draftHas y_draftInitial y_lists y_listLength y_gone y_classOfObject y_slots y_parameters y_generic y_single y_special y_kind y_tokens y_with y_methodAt y_pc y_chosen y_many y_reached y_opsAt y_broken y_arguments y_operands y_operator y_got n' (nI i)) (fun i _ => ∀ j, j < i → ¬ mk_p y_line y_has c n j) l () lt_0 ?_ ?_
  · intro n' _ hI
    refine ⟨pk_in c 16 (by omega), ?_⟩
    rw [bs_clk (n := c) (by omega), el]
    rw [mk_own_no hI] at hp
    exact br_t (nI_le (Nat.le_refl _) (by omega)) hp
  · intro n' i _ hi hI k
    refine ⟨pk_in c 16 (by omega), ?_⟩
    rw [bs_clk (n := c) (by omega), el]
    obtain ⟨e, he, ee⟩ := hk i hi
    refine br_f (nI_ge hi (by omega)) ⟨pk_in (16 * c + i) 256 (by omega) (bs_ix 16 c i), ?_⟩
    rw [bs_ix 16 c i, bs_clk (n := 16 * c + i) (by omega), ee]
    refine ⟨pk_in (4 * e + n) 64 (by omega) (bs_ix 4 e n), ?_⟩
    rw [bs_ix 4 e n, bs_clk (n := 4 * e + n) (by omega)]
    have hpp : mk_p y_line y_has c n i ↔ ¬ y_has (4 * e + n) = 0 := by
      unfold mk_p; rw [ee, bs_clk (by omega)]
    refine br_c (fun z => nm_r (nI_1 i) (k () (lt_s hI (fun w => hpp.mp w z)))) (fun z => ⟨pk_in (16 * c + i) 256 (by omega), ?_⟩)
    rw [mk_own_at hi (hpp.mpr z) hI, ee] at hp
    exact hp
theorem mx_addObject {post : Int32 → SX → Prop} {nc c l no : Nat} (h : rl_cls nc x_lineClass x_lineLength) (hc : c < nc) (hl : l ≤ 16) (el : x_lineLength c = nI l) (hno : no < 20) (hp : ∀ (OH' : Nat → Int32) (OS' : Nat → Int64), mk_PX x_lineClass x_classHasSlot x_classSlot x_objectHasSlot x_objectSlot c l no OH' OS' 4 → post (nI no) (x_classCount, x_superCount, nI (no + 1), x_draftSpecialCount, x_state, x_stepCount, x_latestValue, x_enterGeneric, x_enterPlace, x_frameCount, x_operatorCount, x_valueCount, x_lineClass, x_lineLength, x_isSealed, x_classHasSlot, x_classSlot, x_superDraft, upd x_objectClass no (nI c), OH', OS', x_parameterCount, x_methodGeneric, x_specialiser, x_tokenKind, x_tokenValue, x_tokenCount, x_argument, x_rank, x_orderPlace, x_frameMethod, x_framePlace, x_frameToken, x_frameOperators, x_frameArgument, x_operatorKind, x_operatorValue, x_operatorLeft, x_workedOut)) : wpX_addObject post (x_classCount, x_superCount, nI no, x_draftSpecialCount, x_state, x_stepCount, x_latestValue, x_enterGeneric, x_enterPlace, x_frameCount, x_operatorCount, x_valueCount, x_lineClass, x_lineLength, x_isSealed, x_classHasSlot, x_classSlot, x_superDraft, x_objectClass, x_objectHasSlot, x_objectSlot, x_parameterCount, x_methodGeneric, x_specialiser, x_tokenKind, x_tokenValue, x_tokenCount, x_argument, x_rank, x_orderPlace, x_frameMethod, x_framePlace, x_frameToken, x_frameOperators, x_frameArgument, x_operatorKind, x_operatorValue, x_operatorLeft, x_workedOut) (nI c) := by
  have hn16 := h.2.1
  unfold wpX_addObject
  refine nm_r (nI_1 no) ⟨pk_in no 20 hno, nm_r (e' := upd x_objectClass no (nI c)) (by rw [bs_clk (by omega)]) ?_⟩
  refine loop_0 (σ := (Nat → Int32) × (Nat → Int64)) (fun n' i s => wX_addObject_24 post (nI c) (nI no) x_classCount x_superCount (nI (no + 1)) x_draftSpecialCount x_state x_stepCount x_latestValue x_enterGeneric x_enterPlace x_frameCount x_operatorCount x_valueCount n' (nI i) x_lineClass x_lineLength x_isSealed x_classHasSlot x_classSlot x_superDraft (upd x_objectClass no (nI c)) s.1 s.2 x_parameterCount x_methodGeneric x_specialiser x_tokenKind x_tokenValue x_tokenCount x_argument x_rank x_orderPlace x_frameMethod x_framePlace x_frameToken x_frameOperators x_frameArgument x_operatorKind x_operatorValue x_operatorLeft x_workedOut) (fun i s => mk_PX x_lineClass x_classHasSlot x_classSlot x_objectHasSlot x_objectSlot c l no s.1 s.2 i) 4 (x_objectHasSlot, x_objectSlot) ⟨fun j _ => ⟨rfl, rfl⟩, lt_0⟩ ?_ ?_
  · intro n' s hI
    exact br_t (nI_le (Nat.le_refl _) (by omega)) (hp _ _ hI)
  · intro n' i s hi hI k
    refine br_f (nI_ge (b := 4) hi (by omega)) ?_
    refine mx_slotOwner h hc hl el hi ?_
    rcases mk_own_x (CH := x_classHasSlot) (n := i) h hc hl el with ho | ⟨e, he, ho, _⟩
    · rw [ho]
      refine br_t rfl ⟨pk_in (4 * no + i) 80 (by omega) (bs_xi 4 no i), nm_r (e' := upd s.1 (4 * no + i) 0) (by rw [bs_xi 4 no i, bs_clk (by omega), bs_z0]) ?_⟩
      refine br_t rfl ⟨pk_in (4 * no + i) 80 (by omega) (bs_xi 4 no i), nm_r (e' := vp_updL s.2 (4 * no + i) 0) (by rw [bs_xi 4 no i, bs_clk (by omega)]) (nm_r (nI_1 i) ?_)⟩
      refine k (upd s.1 (4 * no + i) 0, vp_updL s.2 (4 * no + i) 0) ⟨fun j hj => ?_, fun n hn => ?_⟩
      · dsimp only
        rw [pk_un (by omega), pk_uLn (by omega)]; exact hI.1 j hj
      · dsimp only
        by_cases e1 : n = i
        · rw [e1, pk_us]; exact Or.inl ⟨ho, rfl⟩
        · rw [pk_un (by omega), pk_uLn (by omega)]; exact hI.2 n (by omega)
    · rw [ho]
      refine br_f (bs_n1 (by omega)) ⟨pk_in (4 * no + i) 80 (by omega) (bs_xi 4 no i), nm_r (e' := upd s.1 (4 * no + i) 1) (by rw [bs_xi 4 no i, bs_clk (by omega), bs_z1]) ?_⟩
      refine br_f (bs_n1 (by omega)) ⟨pk_in (4 * e + i) 68 (by omega) (bs_xi 4 e i), pk_in (4 * no + i) 80 (by omega) (bs_xi 4 no i), nm_r (e' := vp_updL s.2 (4 * no + i) (x_classSlot (4 * e + i)).toInt64) (by rw [bs_xi 4 no i, bs_xi 4 e i, bs_clk (by omega), bs_clk (by omega)]) (nm_r (nI_1 i) ?_)⟩
      refine k (upd s.1 (4 * no + i) 1, vp_updL s.2 (4 * no + i) (x_classSlot (4 * e + i)).toInt64) ⟨fun j hj => ?_, fun n hn => ?_⟩
      · dsimp only
        rw [pk_un (by omega), pk_uLn (by omega)]; exact hI.1 j hj
      · dsimp only
        by_cases e1 : n = i
        · rw [e1, pk_us, pk_uLs]; exact Or.inr ⟨e, by omega, ho, rfl, rfl⟩
        · rw [pk_un (by omega), pk_uLn (by omega)]; exact hI.2 n (by omega)
theorem my_make {post : Int32 → SY → Prop} {nc c l no : Nat} (h : rl_cls nc y_line y_lineLength) (hc : c < nc) (hc1 : c ≠ 1) (hl : l ≤ 16) (el : y_lineLength c = nI l) (hno : no < 20) (hp : ∀ (SL' : Nat → Int64), mk_PY y_line y_has y_initial y_slots c l no SL' 4 → post (nI no) (nI nc, y_supers, nI (no + 1), y_specials, y_depth, y_ops, y_held, y_fault, y_steps, y_shownSteps, y_result, y_line, y_lineLength, y_has, y_sealed, y_initial, y_drafted, y_draftHas, y_draftInitial, y_lists, y_listLength, y_gone, upd y_classOfObject no (nI c), SL', y_parameters, y_generic, y_single, y_special, y_kind, y_tokens, y_with, y_methodAt, y_pc, y_chosen, y_many, y_reached, y_opsAt, y_broken, y_arguments, y_operands, y_operator, y_got)) : wpY_make post (nI nc, y_supers, nI no, y_specials, y_depth, y_ops, y_held, y_fault, y_steps, y_shownSteps, y_result, y_line, y_lineLength, y_has, y_sealed, y_initial, y_drafted, y_draftHas, y_draftInitial, y_lists, y_listLength, y_gone, y_classOfObject, y_slots, y_parameters, y_generic, y_single, y_special, y_kind, y_tokens, y_with, y_methodAt, y_pc, y_chosen, y_many, y_reached, y_opsAt, y_broken, y_arguments, y_operands, y_operator, y_got) (nI c) := by
  have hn16 := h.2.1
  unfold wpY_make
  refine my_out_t hc (by omega) (br_t rfl (pk_eq c 1 (fun e => absurd e hc1) (fun _ => pk_eq no 20 (fun e => by omega) (fun _ => ⟨pk_in no 20 hno, nm_r (e' := upd y_classOfObject no (nI c)) (by rw [bs_clk (by omega), bs_vb8 (by omega)]) ?_⟩))))
  refine loop_0 (σ := Nat → Int64) (fun n' i s => wY_make_44 post (nI c) (nI nc) y_supers (nI no) y_specials y_depth y_ops y_held y_fault y_steps y_shownSteps y_result n' (nI i) y_line y_lineLength y_has y_sealed y_initial y_drafted y_draftHas y_draftInitial y_lists y_listLength y_gone (upd y_classOfObject no (nI c)) s y_parameters y_generic y_single y_special y_kind y_tokens y_with y_methodAt y_pc y_chosen y_many y_reached y_opsAt y_broken y_arguments y_operands y_operator y_got) (fun i s => mk_PY y_line y_has y_initial y_slots c l no s i) 4 y_slots ⟨fun j _ => rfl, lt_0⟩ ?_ ?_
  · intro n' s hI
    exact br_t (nI_le (Nat.le_refl _) (by omega)) (nm_r (nI_1 no) (hp _ hI))
  · intro n' i s hi hI k
    refine br_f (nI_ge (b := 4) hi (by omega)) ?_
    refine my_giver h hc hl el hi ?_
    rcases mk_own_x (CH := y_has) (n := i) h hc hl el with ho | ⟨e, he, ho, _⟩
    · rw [ho]
      refine br_f (by decide) ⟨pk_in (4 * no + i) 80 (by omega) (bs_ix 4 no i), nm_r (e' := vp_updL s (4 * no + i) (-9223372036854775808)) (by rw [bs_ix 4 no i, bs_clk (by omega)]) (nm_r (nI_1 i) ?_)⟩
      refine k (vp_updL s (4 * no + i) (-9223372036854775808)) ⟨fun j hj => ?_, fun n hn => ?_⟩
      · rw [pk_uLn (by omega)]; exact hI.1 j hj
      · by_cases e1 : n = i
        · rw [e1, pk_uLs]; exact Or.inl ⟨ho, rfl⟩
        · rw [pk_uLn (by omega)]; exact hI.2 n (by omega)
    · rw [ho]
      refine br_t (bs_ge0 (by omega)) ⟨pk_in (4 * e + i) 64 (by omega) (bs_ix 4 e i), pk_in (4 * no + i) 80 (by omega) (bs_ix 4 no i), nm_r (e' := vp_updL s (4 * no + i) (y_initial (4 * e + i)).toInt64) (by rw [bs_ix 4 no i, bs_ix 4 e i, bs_clk (by omega), bs_clk (by omega)]) (nm_r (nI_1 i) ?_)⟩
      refine k (vp_updL s (4 * no + i) (y_initial (4 * e + i)).toInt64) ⟨fun j hj => ?_, fun n hn => ?_⟩
      · rw [pk_uLn (by omega)]; exact hI.1 j hj
      · by_cases e1 : n = i
        · rw [e1, pk_uLs]; exact Or.inr ⟨e, by omega, ho, rfl⟩
        · rw [pk_uLn (by omega)]; exact hI.2 n (by omega)
end
theorem mk_int (x : Int32) : rl_int x.toInt64 := by
  unfold rl_int
  apply Int64.toInt_inj.mp
  rw [Int32.toInt32_toInt64]
theorem mk_obj {nc no c l : Nat} {LC LL CH CS HA IN DH DI OC OH OH' : Nat → Int32} {OS SL OS' SL' : Nat → Int64} (hcls : rl_cls nc LC LL) (hslt : rl_slt nc CH CS HA IN DH DI) (h : rl_obj nc no OC OH OS SL) (hc : c < nc) (hl : l ≤ 16) (el : LL c = nI l) (hno : no < 20) (hX : mk_PX LC CH CS OH OS c l no OH' OS' 4) (hY : mk_PY LC HA IN SL c l no SL' 4) : rl_obj nc (no + 1) (upd OC no (nI c)) OH' OS' SL' := by
  have hn16 := hcls.2.1
  refine ⟨by omega, fun k hk => ?_, fun j hj => ?_⟩
  · by_cases e : k = no
    · rw [e, pk_us]; exact ⟨c, hc, rfl⟩
    · rw [pk_un e]; exact h.2.1 k (by omega)
  · by_cases hj' : j < 4 * no
    · rw [(hX.1 j hj').1, (hX.1 j hj').2, hY.1 j hj']
      rcases h.2.2 j hj' with h1 | ⟨h1, h2, h3⟩
      · exact Or.inl h1
      · exact Or.inr ⟨h1, h2, ob_mono (by omega) h3⟩
    · obtain ⟨n, hn, rfl⟩ : ∃ n, n < 4 ∧ j = 4 * no + n := ⟨j - 4 * no, by omega, by omega⟩
      have eo := mk_own_c (HA := HA) (CH := CH) hcls (fun j hj => (hslt.2.1 j hj).1) hc hl el hn
      rcases hX.2 n hn with ⟨x1, x2⟩ | ⟨e, he, x1, x2, x3⟩
      · rcases hY.2 n hn with ⟨y1, y2⟩ | ⟨e', he', y1, y2⟩
        · exact Or.inl ⟨x2, y2⟩
        · rw [eo, x1] at y1
          exact absurd y1.symm (bs_n1 (by omega))
      · rcases hY.2 n hn with ⟨y1, y2⟩ | ⟨e', he', y1, y2⟩
        · rw [eo, x1] at y1
          exact absurd y1 (bs_n1 (by omega))
        · rw [eo, x1] at y1
          have ee := bs_inj (by omega) (by omega) y1
          subst ee
          rcases mk_own_x (CH := CH) (n := n) hcls hc hl el with ho | ⟨e2, he2, ho, hch⟩
          · rw [x1] at ho
            exact absurd ho (bs_n1 (by omega))
          · rw [x1] at ho
            have ee := bs_inj (by omega) (by omega) ho
            subst ee
            have h1 : CH (4 * e + n) = 1 := (hslt.1 _).resolve_left hch
            refine Or.inr ⟨x2, ?_, ?_⟩
            · rw [y2, x3, (hslt.2.1 (4 * e + n) (by omega)).2 h1]
            · rw [x3]; exact Or.inl (mk_int _)
theorem mk_sp_mono {nc no no' : Nat} (h : no ≤ no') {sp sg : Int64} {si : Int32} (hs : rl_sp nc no sp si sg) : rl_sp nc no' sp si sg := by
  rcases hs with h1 | ⟨h1, h2, h3⟩
  · exact Or.inl h1
  · exact Or.inr ⟨h1, h2, ob_mono h h3⟩
theorem mk_spc {nc no no' nd : Nat} (h : no ≤ no') {MG PC : Nat → Int32} {SP : Nat → Int64} {SI : Nat → Int32} {SG : Nat → Int64} (hs : rl_spc nc no nd MG PC SP SI SG) : rl_spc nc no' nd MG PC SP SI SG :=
  ⟨hs.1, fun k hk => mk_sp_mono h (hs.2.1 k hk), fun m g p hm hg hp h1 h2 k hk => mk_sp_mono h (hs.2.2 m g p hm hg hp h1 h2 k hk)⟩
theorem i_vc_make {k : Nat} {u : SX} {v : SY} (I : i_Rel k u v) (hk : k + 9 ≤ 4608) (v1 : Int32) : wpX_make (fun r u' => wpY_make (fun r' v' => r' = r ∧ i_Rel (k + 9) u' v') v v1) u v1 := by
  obtain ⟨x_classCount, x_superCount, x_objectCount, x_draftSpecialCount, x_state, x_stepCount, x_latestValue, x_enterGeneric, x_enterPlace, x_frameCount, x_operatorCount, x_valueCount, x_lineClass, x_lineLength, x_isSealed, x_classHasSlot, x_classSlot, x_superDraft, x_objectClass, x_objectHasSlot, x_objectSlot, x_parameterCount, x_methodGeneric, x_specialiser, x_tokenKind, x_tokenValue, x_tokenCount, x_argument, x_rank, x_orderPlace, x_frameMethod, x_framePlace, x_frameToken, x_frameOperators, x_frameArgument, x_operatorKind, x_operatorValue, x_operatorLeft, x_workedOut⟩ := u
  obtain ⟨y_classes, y_supers, y_objects, y_specials, y_depth, y_ops, y_held, y_fault, y_steps, y_shownSteps, y_result, y_line, y_lineLength, y_has, y_sealed, y_initial, y_drafted, y_draftHas, y_draftInitial, y_lists, y_listLength, y_gone, y_classOfObject, y_slots, y_parameters, y_generic, y_single, y_special, y_kind, y_tokens, y_with, y_methodAt, y_pc, y_chosen, y_many, y_reached, y_opsAt, y_broken, y_arguments, y_operands, y_operator, y_got⟩ := v
  obtain ⟨nc, no, ns, nd, rfl, rfl, rfl, rfl, rfl, rfl, rfl, rfl, rfl, rfl, rfl, rfl, rfl, rfl, rfl, rfl, rfl, rfl, rfl, rfl, hcls, hsup, hslt, hobj, hpar, hgen, htok, hbod, hspc, hunq⟩ := I
  have J : i_Rel (k + 9) (nI nc, nI ns, nI no, nI nd, x_state, x_stepCount, x_latestValue, x_enterGeneric, x_enterPlace, x_frameCount, x_operatorCount, x_valueCount, x_lineClass, x_lineLength, x_isSealed, x_classHasSlot, x_classSlot, x_superDraft, x_objectClass, x_objectHasSlot, x_objectSlot, x_parameterCount, x_methodGeneric, x_specialiser, x_tokenKind, x_tokenValue, x_tokenCount, x_argument, x_rank, x_orderPlace, x_frameMethod, x_framePlace, x_frameToken, x_frameOperators, x_frameArgument, x_operatorKind, x_operatorValue, x_operatorLeft, x_workedOut) (nI nc, nI ns, nI no, nI nd, y_depth, y_ops, y_held, y_fault, y_steps, x_stepCount, x_latestValue, x_lineClass, x_lineLength, y_has, x_isSealed, y_initial, x_superDraft, y_draftHas, y_draftInitial, y_lists, y_listLength, y_gone, x_objectClass, y_slots, x_parameterCount, x_methodGeneric, y_single, y_special, x_tokenKind, x_tokenCount, x_tokenValue, y_methodAt, y_pc, y_chosen, y_many, y_reached, y_opsAt, y_broken, y_arguments, y_operands, y_operator, y_got) := ⟨nc, no, ns, nd, rfl, rfl, rfl, rfl, rfl, rfl, rfl, rfl, rfl, rfl, rfl, rfl, rfl, rfl, rfl, rfl, rfl, rfl, rfl, rfl, hcls, hsup, hslt, hobj, hpar, hgen, htok, hbod, hspc, hunq⟩
  have hn : nc ≤ 16 := hcls.2.1
  have hno := hobj.1
  rcases bs_ar2 v1 (n := nc) (by omega) with h | ⟨c, hc, rfl⟩
  · unfold wpX_make
    refine mx_isClass_f h (br_t rfl ?_)
    unfold wpY_make
    exact my_out_f h (br_f (by decide) ⟨rfl, J⟩)
  · unfold wpX_make
    refine mx_isClass_t hc hn (br_f (by decide) (pk_eq c 1 (fun e => ?_) (fun hc1 => pk_eq no 20 (fun e => ?_) (fun hno2 => ?_))))
    · unfold wpY_make
      exact my_out_t hc (by omega) (br_t rfl (br_t (congrArg nI e) ⟨rfl, J⟩))
    · unfold wpY_make
      exact my_out_t hc (by omega) (br_t rfl (pk_eq c 1 (fun e => absurd e hc1) (fun _ => br_t (congrArg nI e) ⟨rfl, J⟩)))
    · obtain ⟨l, hl, el, _⟩ := hcls.2.2 c hc
      refine mx_addObject hcls hc hl el (by omega) (fun OH' OS' hX => ?_)
      refine my_make hcls hc hc1 hl el (by omega) (fun SL' hY => ⟨rfl, ?_⟩)
      exact ⟨nc, no + 1, ns, nd, rfl, rfl, rfl, rfl, rfl, rfl, rfl, rfl, rfl, rfl, rfl, rfl, rfl, rfl, rfl, rfl, rfl, rfl, rfl, rfl, hcls, hsup, hslt, mk_obj hcls hslt hobj hc hl el (by omega) hX hY, hpar, hgen, htok, hbod, mk_spc (by omega) hspc, hunq⟩
end
section
/-! the constructors; clear -/
def in_f (x : Int32) (i : Nat) : Nat → Int32 := fun j => if j < i then x else 0
theorem in_0 (x : Int32) : (fun _ => 0 : Nat → Int32) = in_f x 0 := by
  funext j
  exact (if_neg (Nat.not_lt_zero j)).symm
theorem in_s (x : Int32) (i : Nat) : upd (in_f x i) i x = in_f x (i + 1) := by
  funext j
  unfold in_f
  by_cases e : j = i
  · rw [e, pk_us, if_pos (by omega)]
  · rw [pk_un e]
    by_cases h : j < i
    · rw [if_pos h, if_pos (by omega)]
    · rw [if_neg h, if_neg (by omega)]
theorem in_at {x : Int32} {i j : Nat} (h : j < i) : in_f x i j = x := if_pos h
def in_LC : Nat → Int32 := upd (upd (upd (fun _ => 0) 0 0) 16 1) 17 0
def in_LL : Nat → Int32 := upd (upd (fun _ => 0) 0 1) 1 2
theorem in_lc : upd (fun _ => 0) 16 1 = in_LC := by
  funext j
  unfold in_LC
  by_cases e1 : j = 17
  · rw [e1, pk_us]; rfl
  · rw [pk_un e1]
    by_cases e2 : j = 16
    · rw [e2, pk_us, pk_us]
    · rw [pk_un e2, pk_un e2]
      by_cases e3 : j = 0
      · rw [e3, pk_us]
      · rw [pk_un e3]
theorem mx_init {post : SX → Prop} (hp : post (2, 0, 0, 0, 0, 0, -9223372036854775808, 0, 0, 0, 0, 0, in_LC, in_LL, fun _ => 0, fun _ => 0, fun _ => 0, fun _ => 0, fun _ => 0, fun _ => 0, fun _ => 0, in_f 1 5, in_f (-1) 24, fun _ => 0, fun _ => 0, fun _ => 0, fun _ => 0, fun _ => 0, fun _ => 0, fun _ => 0, fun _ => 0, fun _ => 0, fun _ => 0, fun _ => 0, fun _ => 0, fun _ => 0, fun _ => 0, fun _ => 0, fun _ => 0)) : wpX_init post := by
  unfold wpX_init
  refine nm_e (nm_e (nm_e (nm_e (nm_e ?_))))
  refine loop_0 (σ := Nat → Int32) (fun n i s => wX_init_321 post 2 0 0 0 0 0 (-9223372036854775808) 0 0 0 0 0 n (nI i) in_LC in_LL (fun _ => 0) (fun _ => 0) (fun _ => 0) (fun _ => 0) (fun _ => 0) (fun _ => 0) (fun _ => 0) s (fun _ => 0) (fun _ => 0) (fun _ => 0) (fun _ => 0) (fun _ => 0) (fun _ => 0) (fun _ => 0) (fun _ => 0) (fun _ => 0) (fun _ => 0) (fun _ => 0) (fun _ => 0) (fun _ => 0) (fun _ => 0) (fun _ => 0) (fun _ => 0) (fun _ => 0)) (fun i s => s = in_f 1 i) 5 (fun _ => 0) (in_0 1) ?_ ?_
  · rintro n s rfl
    refine br_t (nI_le (Nat.le_refl _) (by omega)) ?_
    refine loop_0 (σ := Nat → Int32) (fun n i s => wX_init_341 post 2 0 0 0 0 0 (-9223372036854775808) 0 0 0 0 0 n (nI i) in_LC in_LL (fun _ => 0) (fun _ => 0) (fun _ => 0) (fun _ => 0) (fun _ => 0) (fun _ => 0) (fun _ => 0) (in_f 1 5) s (fun _ => 0) (fun _ => 0) (fun _ => 0) (fun _ => 0) (fun _ => 0) (fun _ => 0) (fun _ => 0) (fun _ => 0) (fun _ => 0) (fun _ => 0) (fun _ => 0) (fun _ => 0) (fun _ => 0) (fun _ => 0) (fun _ => 0) (fun _ => 0)) (fun i s => s = in_f (-1) i) 24 (fun _ => 0) (in_0 (-1)) ?_ ?_
    · rintro n s rfl
      exact br_t (nI_le (Nat.le_refl _) (by omega)) hp
    · rintro n i s hi rfl k
      refine br_f (nI_ge (b := 24) hi (by omega)) ⟨pk_in i 24 hi, nm_r (e' := in_f (-1) (i + 1)) (by rw [bs_clk (by omega), in_s]) (nm_r (nI_1 i) (k _ rfl))⟩
  · rintro n i s hi rfl k
    refine br_f (nI_ge (b := 5) hi (by omega)) ⟨pk_in i 5 hi, nm_r (e' := in_f 1 (i + 1)) (by rw [bs_clk (by omega), in_s]) (nm_r (nI_1 i) (k _ rfl))⟩
theorem my_init {post : SY → Prop} (hp : post (2, 0, 0, 0, 0, 0, 0, 0, 0, 0, -9223372036854775808, in_LC, in_LL, fun _ => 0, fun _ => 0, fun _ => 0, fun _ => 0, fun _ => 0, fun _ => 0, fun _ => 0, fun _ => 0, fun _ => 0, fun _ => 0, fun _ => 0, in_f 1 5, in_f (-1) 24, fun _ => 0, fun _ => 0, fun _ => 0, fun _ => 0, fun _ => 0, fun _ => 0, fun _ => 0, fun _ => 0, fun _ => 0, fun _ => 0, fun _ => 0, fun _ => 0, fun _ => 0, fun _ => 0, fun _ => 0, fun _ => 0)) : wpY_init post := by
  unfold wpY_init
  refine nm_r (e' := in_LC) (by rw [bs_v1]; exact in_lc) (nm_e (nm_r (e' := in_LL) (by rw [bs_v1, bs_v2]; rfl) ?_))
  refine loop_0 (σ := Nat → Int32) (fun n i s => wY_init_289 post 2 0 0 0 0 0 0 0 0 0 (-9223372036854775808) n (nI i) in_LC in_LL (fun _ => 0) (fun _ => 0) (fun _ => 0) (fun _ => 0) (fun _ => 0) (fun _ => 0) (fun _ => 0) (fun _ => 0) (fun _ => 0) (fun _ => 0) (fun _ => 0) s (fun _ => 0) (fun _ => 0) (fun _ => 0) (fun _ => 0) (fun _ => 0) (fun _ => 0) (fun _ => 0) (fun _ => 0) (fun _ => 0) (fun _ => 0) (fun _ => 0) (fun _ => 0) (fun _ => 0) (fun _ => 0) (fun _ => 0) (fun _ => 0) (fun _ => 0)) (fun i s => s = in_f 1 i) 5 (fun _ => 0) (in_0 1) ?_ ?_
  · rintro n s rfl
    refine br_t (nI_le (Nat.le_refl _) (by omega)) ?_
    refine loop_0 (σ := Nat → Int32) (fun n i s => wY_init_309 post 2 0 0 0 0 0 0 0 0 0 (-9223372036854775808) n (nI i) in_LC in_LL (fun _ => 0) (fun _ => 0) (fun _ => 0) (fun _ => 0) (fun _ => 0) (fun _ => 0) (fun _ => 0) (fun _ => 0) (fun _ => 0) (fun _ => 0) (fun _ => 0) (in_f 1 5) s (fun _ => 0) (fun _ => 0) (fun _ => 0) (fun _ => 0) (fun _ => 0) (fun _ => 0) (fun _ => 0) (fun _ => 0) (fun _ => 0) (fun _ => 0) (fun _ => 0) (fun _ => 0) (fun _ => 0) (fun _ => 0) (fun _ => 0) (fun _ => 0)) (fun i s => s = in_f (-1) i) 24 (fun _ => 0) (in_0 (-1)) ?_ ?_
    · rintro n s rfl
      exact br_t (nI_le (Nat.le_refl _) (by omega)) hp
    · rintro n i s hi rfl k
      refine br_f (nI_ge (b := 24) hi (by omega)) ⟨pk_in i 24 hi, nm_r (e' := in_f (-1) (i + 1)) (by rw [bs_clk (by omega), bs_vm1, in_s]) (nm_r (nI_1 i) (k _ rfl))⟩
  · rintro n i s hi rfl k
    refine br_f (nI_ge (b := 5) hi (by omega)) ⟨pk_in i 5 hi, nm_r (e' := in_f 1 (i + 1)) (by rw [bs_clk (by omega), bs_v1, in_s]) (nm_r (nI_1 i) (k _ rfl))⟩
theorem i_vc0 : wpX_init (fun u => wpY_init (fun v => i_Rel 0 u v)) := by
  refine mx_init (my_init ?_)
  refine ⟨2, 0, 0, 0, rfl, rfl, rfl, rfl, rfl, rfl, rfl, rfl, rfl, rfl, rfl, rfl, rfl, rfl, rfl, rfl, rfl, rfl, rfl, rfl, ⟨by omega, by omega, fun c hc => ?_⟩, ⟨by omega, fun i hi => by omega⟩, ⟨fun j => Or.inl rfl, fun j _ => ⟨rfl, fun z => absurd z (show ¬ (0 : Int32) = 1 by decide)⟩, fun n _ => ⟨rfl, fun z => absurd z (show ¬ (0 : Int32) = 1 by decide)⟩, fun _ _ => rfl⟩, ⟨by omega, fun k hk => by omega, fun j hj => by omega⟩, fun g hg => ⟨1, by omega, by omega, in_at hg⟩, fun m hm => Or.inl (in_at hm), fun m hm => ⟨0, by omega, rfl, fun i hi => by omega⟩, fun m g p t hm hg hp ht h1 h2 h3 => ?_, ⟨by omega, fun k hk => by omega, fun m g p hm hg hp h1 h2 k hk => ?_⟩, fun m n g p hm hn hg hp h1 h2 h3 h4 => ?_⟩
  · have hc2 : c = 0 ∨ c = 1 := by omega
    rcases hc2 with rfl | rfl
    · refine ⟨1, by omega, rfl, fun k hk => ?_⟩
      have : k = 0 := by omega
      subst this
      exact ⟨0, by omega, rfl⟩
    · refine ⟨2, by omega, rfl, fun k hk => ?_⟩
      have : k = 0 ∨ k = 1 := by omega
      rcases this with rfl | rfl
      · exact ⟨1, by omega, rfl⟩
      · exact ⟨0, by omega, rfl⟩
  · rw [in_at hm] at h1
    exact absurd h1.symm (bs_n1 (by omega))
  · rw [in_at hm] at h1
    exact absurd h1.symm (bs_n1 (by omega))
  · rw [in_at hm] at h1
    exact absurd h1.symm (bs_n1 (by omega))
/-- the methods that a clear takes -/
def cl_b (PC MG : Nat → Int32) (SP : Nat → Int64) (no m : Nat) : Prop := ∃ g p i k, g < 5 ∧ MG m = nI g ∧ p ≤ 3 ∧ PC g = nI p ∧ i < p ∧ k < no ∧ SP (3 * m + i) = lN (4294967296 + k)
noncomputable def cl_f (MG : Nat → Int32) (b : Nat → Prop) (i : Nat) : Nat → Int32 := fun j => bs_ci (j < i ∧ b j) (-1) (MG j)
theorem cl_0 (MG : Nat → Int32) (b : Nat → Prop) : MG = cl_f MG b 0 := by
  funext j
  exact (bs_cf (fun z => absurd z.1 (Nat.not_lt_zero j))).symm
theorem cl_i (MG : Nat → Int32) (b : Nat → Prop) (i : Nat) : cl_f MG b i i = MG i := bs_cf (fun z => absurd z.1 (Nat.lt_irrefl i))
theorem cl_t {MG : Nat → Int32} {b : Nat → Prop} {i : Nat} (h : b i) : upd (cl_f MG b i) i (-1) = cl_f MG b (i + 1) := by
  funext j
  by_cases e : j = i
  · rw [e, pk_us]; exact (bs_ct ⟨by omega, h⟩).symm
  · rw [pk_un e]
    unfold cl_f
    by_cases h2 : j < i ∧ b j
    · rw [bs_ct h2, bs_ct ⟨by omega, h2.2⟩]
    · rw [bs_cf h2, bs_cf (fun z => h2 ⟨by omega, z.2⟩)]
theorem cl_n {MG : Nat → Int32} {b : Nat → Prop} {i : Nat} (h : ¬ b i) : cl_f MG b i = cl_f MG b (i + 1) := by
  funext j
  unfold cl_f
  by_cases h2 : j < i ∧ b j
  · rw [bs_ct h2, bs_ct ⟨by omega, h2.2⟩]
  · rw [bs_cf h2, bs_cf (fun z => ?_)]
    by_cases e : j = i
    · rw [e] at z; exact h z.2
    · exact h2 ⟨by omega, z.2⟩
theorem cl_or (x : Int32) : x ||| 0 = x := Int32.or_zero
section
variable {x_classCount : Int32} {x_superCount : Int32} {x_objectCount : Int32} {x_draftSpecialCount : Int32} {x_state : Int32} {x_stepCount : Int32} {x_latestValue : Int64} {x_enterGeneric : Int32} {x_enterPlace : Int32} {x_frameCount : Int32} {x_operatorCount : Int32} {x_valueCount : Int32} {x_lineClass : Nat → Int32} {x_lineLength : Nat → Int32} {x_isSealed : Nat → Int32} {x_classHasSlot : Nat → Int32} {x_classSlot : Nat → Int32} {x_superDraft : Nat → Int32} {x_objectClass : Nat → Int32} {x_objectHasSlot : Nat → Int32} {x_objectSlot : Nat → Int64} {x_parameterCount : Nat → Int32} {x_methodGeneric : Nat → Int32} {x_specialiser : Nat → Int64} {x_tokenKind : Nat → Int32} {x_tokenValue : Nat → Int32} {x_tokenCount : Nat → Int32} {x_argument : Nat → Int64} {x_rank : Nat → Int32} {x_orderPlace : Nat → Int32} {x_frameMethod : Nat → Int32} {x_framePlace : Nat → Int32} {x_frameToken : Nat → Int32} {x_frameOperators : Nat → Int32} {x_frameArgument : Nat → Int64} {x_operatorKind : Nat → Int32} {x_operatorValue : Nat → Int32} {x_operatorLeft : Nat → Int32} {x_workedOut : Nat → Int64} {y_classes : Int32} {y_supers : Int32} {y_objects : Int32} {y_specials : Int32} {y_depth : Int32} {y_ops : Int32} {y_held : Int32} {y_fault : Int32} {y_steps : Int32} {y_shownSteps : Int32} {y_result : Int64} {y_line : Nat → Int32} {y_lineLength : Nat → Int32} {y_has : Nat → Int32} {y_sealed : Nat → Int32} {y_initial : Nat → Int32} {y_drafted : Nat → Int32} {y_draftHas : Nat → Int32} {y_draftInitial : Nat → Int32} {y_lists : Nat → Int32} {y_listLength : Nat → Int32} {y_gone : Nat → Int32} {y_classOfObject : Nat → Int32} {y_slots : Nat → Int64} {y_parameters : Nat → Int32} {y_generic : Nat → Int32} {y_single : Nat → Int32} {y_special : Nat → Int64} {y_kind : Nat → Int32} {y_tokens : Nat → Int32} {y_with : Nat → Int32} {y_methodAt : Nat → Int32} {y_pc : Nat → Int32} {y_chosen : Nat → Int32} {y_many : Nat → Int32} {y_reached : Nat → Int32} {y_opsAt : Nat → Int32} {y_broken : Nat → Int32} {y_arguments : Nat → Int64} {y_operands : Nat → Int64} {y_operator : Nat → Int32} {y_got : Nat → Int32}
theorem mx_hasOS {post : Int32 → Prop} {m g p no : Nat} (hm : m < 24) (hg : g < 5) (hp3 : p ≤ 3) (hno : no ≤ 20) (eg : x_methodGeneric m = nI g) (ep : x_parameterCount g = nI p) (h0 : (∀ i, i < p → ¬ ∃ k, k < no ∧ x_specialiser (3 * m + i) = lN (4294967296 + k)) → post 0) (h1 : (∃ i, i < p ∧ ∃ k, k < no ∧ x_specialiser (3 * m + i) = lN (4294967296 + k)) → post 1) : wpX_hasObjectSpecial post (x_classCount, x_superCount, nI no, x_draftSpecialCount, x_state, x_stepCount, x_latestValue, x_enterGeneric, x_enterPlace, x_frameCount, x_operatorCount, x_valueCount, x_lineClass, x_lineLength, x_isSealed, x_classHasSlot, x_classSlot, x_superDraft, x_objectClass, x_objectHasSlot, x_objectSlot, x_parameterCount, x_methodGeneric, x_specialiser, x_tokenKind, x_tokenValue, x_tokenCount, x_argument, x_rank, x_orderPlace, x_frameMethod, x_framePlace, x_frameToken, x_frameOperators, x_frameArgument, x_operatorKind, x_operatorValue, x_operatorLeft, x_workedOut) (nI m) := by
  unfold wpX_hasObjectSpecial
  have em : x_methodGeneric (nI m).toNatClampNeg = nI g := by rw [bs_clk (by omega)]; exact eg
  refine loop_0 (σ := Unit) (fun n i _ => wX_hasObjectSpecial_2 post (nI m) x_classCount x_superCount (nI no) x_draftSpecialCount x_state x_stepCount x_latestValue x_enterGeneric x_enterPlace x_frameCount x_operatorCount x_valueCount x_lineClass x_lineLength x_isSealed x_classHasSlot x_classSlot x_superDraft x_objectClass x_objectHasSlot x_objectSlot x_parameterCount x_methodGeneric x_specialiser x_tokenKind x_tokenValue x_tokenCount x_argument x_rank x_orderPlace x_frameMethod x_framePlace x_frameToken x_frameOperators x_frameArgument x_operatorKind x_operatorValue x_operatorLeft x_workedOut n (nI i)) (fun i _ => ∀ j, j < i → ¬ ∃ k, k < no ∧ x_specialiser (3 * m + j) = lN (4294967296 + k)) p () lt_0 ?_ ?_
  · intro n _ hI
    refine ⟨pk_in m 24 hm, pk_in g 5 hg em, ?_⟩
    rw [em, bs_clk (n := g) (by omega), ep]
    exact br_t (nI_le (Nat.le_refl _) (by omega)) (h0 hI)
  · intro n i _ hi hI k
    refine ⟨pk_in m 24 hm, pk_in g 5 hg em, ?_⟩
    rw [em, bs_clk (n := g) (by omega), ep]
    refine br_f (nI_ge hi (by omega)) ⟨pk_in (3 * m + i) 75 (by omega) (bs_xi 3 m i), ?_⟩
    rw [bs_xi 3 m i, bs_clk (n := 3 * m + i) (by omega)]
    by_cases hb : ∃ k, k < no ∧ x_specialiser (3 * m + i) = lN (4294967296 + k)
    · obtain ⟨q, hq, e⟩ := hb
      rw [e]
      exact mx_isObject_t hno hq (br_f (by decide) (h1 ⟨i, hi, q, hq, e⟩))
    · exact mx_isObject_f hno hb (br_t rfl (nm_r (nI_1 i) (k () (lt_s hI hb))))
theorem mx_clear {post : Int32 → SX → Prop} {no : Nat} (hno : no ≤ 20) (hgen : rl_gen x_methodGeneric) (hpar : rl_par x_parameterCount) (hp : post (nI no) (x_classCount, x_superCount, 0, 0, x_state, x_stepCount, x_latestValue, x_enterGeneric, x_enterPlace, x_frameCount, x_operatorCount, x_valueCount, x_lineClass, x_lineLength, x_isSealed, x_classHasSlot, x_classSlot, x_superDraft, x_objectClass, x_objectHasSlot, x_objectSlot, x_parameterCount, cl_f x_methodGeneric (cl_b x_parameterCount x_methodGeneric x_specialiser no) 24, x_specialiser, x_tokenKind, x_tokenValue, x_tokenCount, x_argument, x_rank, x_orderPlace, x_frameMethod, x_framePlace, x_frameToken, x_frameOperators, x_frameArgument, x_operatorKind, x_operatorValue, x_operatorLeft, x_workedOut)) : wpX_clear post (x_classCount, x_superCount, nI no, x_draftSpecialCount, x_state, x_stepCount, x_latestValue, x_enterGeneric, x_enterPlace, x_frameCount, x_operatorCount, x_valueCount, x_lineClass, x_lineLength, x_isSealed, x_classHasSlot, x_classSlot, x_superDraft, x_objectClass, x_objectHasSlot, x_objectSlot, x_parameterCount, x_methodGeneric, x_specialiser, x_tokenKind, x_tokenValue, x_tokenCount, x_argument, x_rank, x_orderPlace, x_frameMethod, x_framePlace, x_frameToken, x_frameOperators, x_frameArgument, x_operatorKind, x_operatorValue, x_operatorLeft, x_workedOut) := by
  unfold wpX_clear
  refine loop_0 (σ := Nat → Int32) (fun n i s => wX_clear_2 post x_classCount x_superCount (nI no) x_draftSpecialCount x_state x_stepCount x_latestValue x_enterGeneric x_enterPlace x_frameCount x_operatorCount x_valueCount n (nI i) x_lineClass x_lineLength x_isSealed x_classHasSlot x_classSlot x_superDraft x_objectClass x_objectHasSlot x_objectSlot x_parameterCount s x_specialiser x_tokenKind x_tokenValue x_tokenCount x_argument x_rank x_orderPlace x_frameMethod x_framePlace x_frameToken x_frameOperators x_frameArgument x_operatorKind x_operatorValue x_operatorLeft x_workedOut) (fun i s => s = cl_f x_methodGeneric (cl_b x_parameterCount x_methodGeneric x_specialiser no) i) 24 x_methodGeneric (cl_0 _ _) ?_ ?_
  · rintro n s rfl
    exact br_t (nI_le (Nat.le_refl _) (by omega)) hp
  · rintro n m s hm rfl k
    refine br_f (nI_ge (b := 24) hm (by omega)) ⟨pk_in m 24 hm, ?_⟩
    rw [bs_clk (n := m) (by omega)]
    have ei := cl_i x_methodGeneric (cl_b x_parameterCount x_methodGeneric x_specialiser no) m
    rcases hgen m hm with e | ⟨g, hg, e⟩
    · refine br_t (by rw [ei]; exact e) (nm_r (nI_1 m) (k _ (cl_n ?_)))
      rintro ⟨g, p, i, q, hg, eg, _⟩
      rw [e] at eg
      exact bs_n1 (by omega) eg.symm
    · obtain ⟨p, hp1, hp3, ep⟩ := hpar g hg
      refine br_f (by rw [ei, e]; exact bs_n1 (by omega)) ?_
      refine mx_hasOS hm hg hp3 hno (by rw [ei]; exact e) ep (fun hz => br_t rfl (nm_r (nI_1 m) (k _ (cl_n ?_)))) (fun hz => br_f (by decide) ⟨pk_in m 24 hm, nm_r (cl_t ?_) (nm_r (nI_1 m) (k _ rfl))⟩)
      · rintro ⟨g', p', i, q, hg', eg, hp', ep', hi, hq, es⟩
        rw [e] at eg
        have := bs_inj (by omega) (by omega) eg
        subst this
        rw [ep] at ep'
        have := bs_inj (by omega) (by omega) ep'
        subst this
        exact hz i hi ⟨q, hq, es⟩
      · obtain ⟨i, hi, q, hq, es⟩ := hz
        exact ⟨g, p, i, q, hg, e, hp3, ep, hi, hq, es⟩
end
end
section
theorem cl_il {v : Int64} (h : rl_int v) : v < 4294967296 := by
  rw [Int64.lt_iff_toInt_lt, ob_K, pk_lT (by omega)]
  have h1 := congrArg Int64.toInt h
  rw [Int32.toInt_toInt64] at h1
  have h2 := Int32.toInt_lt v.toInt32
  omega
theorem cl_ol (k : Nat) (hk : k < 20) : ¬ lN (4294967296 + k) < 4294967296 := by
  rw [ob_K, pk_lLT (by omega) (by omega)]
  omega
theorem cl_c (c k : Nat) (hc : c < 16) (hk : k < 20) : ¬ lN (8589934592 + c) = lN (4294967296 + k) := by
  rw [pk_lEQ (by omega) (by omega)]
  omega
section
variable {y_classes : Int32} {y_supers : Int32} {y_objects : Int32} {y_specials : Int32} {y_depth : Int32} {y_ops : Int32} {y_held : Int32} {y_fault : Int32} {y_steps : Int32} {y_shownSteps : Int32} {y_result : Int64} {y_line : Nat → Int32} {y_lineLength : Nat → Int32} {y_has : Nat → Int32} {y_sealed : Nat → Int32} {y_initial : Nat → Int32} {y_drafted : Nat → Int32} {y_draftHas : Nat → Int32} {y_draftInitial : Nat → Int32} {y_lists : Nat → Int32} {y_listLength : Nat → Int32} {y_gone : Nat → Int32} {y_classOfObject : Nat → Int32} {y_slots : Nat → Int64} {y_parameters : Nat → Int32} {y_generic : Nat → Int32} {y_single : Nat → Int32} {y_special : Nat → Int64} {y_kind : Nat → Int32} {y_tokens : Nat → Int32} {y_with : Nat → Int32} {y_methodAt : Nat → Int32} {y_pc : Nat → Int32} {y_chosen : Nat → Int32} {y_many : Nat → Int32} {y_reached : Nat → Int32} {y_opsAt : Nat → Int32} {y_broken : Nat → Int32} {y_arguments : Nat → Int64} {y_operands : Nat → Int64} {y_operator : Nat → Int32} {y_got : Nat → Int32}
theorem my_cl28 {post : Int32 → SY → Prop} {J17 : Int32 → (Nat → Int32) → (Nat → Int32) → (Nat → Int32) → (Nat → Int32) → (Nat → Int32) → (Nat → Int32) → (Nat → Int32) → (Nat → Int32) → (Nat → Int32) → (Nat → Int32) → (Nat → Int32) → (Nat → Int32) → (Nat → Int64) → (Nat → Int32) → (Nat → Int32) → (Nat → Int32) → (Nat → Int64) → (Nat → Int32) → (Nat → Int32) → (Nat → Int32) → (Nat → Int32) → (Nat → Int32) → (Nat → Int32) → (Nat → Int32) → (Nat → Int32) → (Nat → Int32) → (Nat → Int32) → (Nat → Int64) → (Nat → Int64) → (Nat → Int32) → (Nat → Int32) → Prop} {x1 : Int32} {SP : Nat → Int64} {nc no m g p : Nat} (hm : m < 24) (hg : g < 5) (hp1 : 1 ≤ p) (hp3 : p ≤ 3) (hnc : nc ≤ 16) (hno : no ≤ 20) (eg : y_generic m = nI g) (ep : y_parameters g = nI p) (hs : ∀ k, k < p → rl_sp nc no (SP (3 * m + k)) (y_single (3 * m + k)) (y_special (3 * m + k)))
    (h0 : (∀ i, i < p → ¬ ∃ k, k < no ∧ SP (3 * m + i) = lN (4294967296 + k)) → wY_clear_105 post J17 x1 (nI m) 0 y_classes y_supers y_objects y_specials y_depth y_ops y_held y_fault y_steps y_shownSteps y_result y_line y_lineLength y_has y_sealed y_initial y_drafted y_draftHas y_draftInitial y_lists y_listLength y_gone y_classOfObject y_slots y_parameters y_generic y_single y_special y_kind y_tokens y_with y_methodAt y_pc y_chosen y_many y_reached y_opsAt y_broken y_arguments y_operands y_operator y_got) (h1 : (∃ i, i < p ∧ ∃ k, k < no ∧ SP (3 * m + i) = lN (4294967296 + k)) → wY_clear_105 post J17 x1 (nI m) 1 y_classes y_supers y_objects y_specials y_depth y_ops y_held y_fault y_steps y_shownSteps y_result y_line y_lineLength y_has y_sealed y_initial y_drafted y_draftHas y_draftInitial y_lists y_listLength y_gone y_classOfObject y_slots y_parameters y_generic y_single y_special y_kind y_tokens y_with y_methodAt y_pc y_chosen y_many y_reached y_opsAt y_broken y_arguments y_operands y_operator y_got) : ∃ n, wY_clear_28 post J17 x1 (nI m) y_classes y_supers y_objects y_specials y_depth y_ops y_held y_fault y_steps y_shownSteps y_result y_line y_lineLength y_has y_sealed y_initial y_drafted y_draftHas y_draftInitial y_lists y_listLength y_gone y_classOfObject y_slots y_parameters y_generic y_single y_special y_kind y_tokens y_with y_methodAt y_pc y_chosen y_many y_reached y_opsAt y_broken y_arguments y_operands y_operator y_got n 0 0 := by
  have em : y_generic (nI m).toNatClampNeg = nI g := by rw [bs_clk (by omega)]; exact eg
  refine loop_0 (σ := Int32) (fun n i s => wY_clear_28 post J17 x1 (nI m) y_classes y_supers y_objects y_specials y_depth y_ops y_held y_fault y_steps y_shownSteps y_result y_line y_lineLength y_has y_sealed y_initial y_drafted y_draftHas y_draftInitial y_lists y_listLength y_gone y_classOfObject y_slots y_parameters y_generic y_single y_special y_kind y_tokens y_with y_methodAt y_pc y_chosen y_many y_reached y_opsAt y_broken y_arguments y_operands y_operator y_got n s (nI i)) (fun i s => (s = 0 ∧ ∀ j, j < i → ¬ ∃ k, k < no ∧ SP (3 * m + j) = lN (4294967296 + k)) ∨ (s = 1 ∧ ∃ j, j < i ∧ ∃ k, k < no ∧ SP (3 * m + j) = lN (4294967296 + k))) p 0 (Or.inl ⟨rfl, lt_0⟩) ?_ ?_
  · intro n s hI
    have fin : wY_clear_105 post J17 x1 (nI m) s y_classes y_supers y_objects y_specials y_depth y_ops y_held y_fault y_steps y_shownSteps y_result y_line y_lineLength y_has y_sealed y_initial y_drafted y_draftHas y_draftInitial y_lists y_listLength y_gone y_classOfObject y_slots y_parameters y_generic y_single y_special y_kind y_tokens y_with y_methodAt y_pc y_chosen y_many y_reached y_opsAt y_broken y_arguments y_operands y_operator y_got := by
      rcases hI with ⟨rfl, h⟩ | ⟨rfl, h⟩
      · exact h0 h
      · exact h1 h
    refine pk_le 3 p (fun _ => fin) (fun _ => ⟨pk_in m 24 hm, ?_⟩)
    rw [em]
    refine br_f (nI_pos (by omega)) ⟨pk_in m 24 hm, pk_in g 5 hg, ?_⟩
    rw [bs_clk (n := g) (by omega), ep]
    exact br_t (nI_le (Nat.le_refl _) (by omega)) fin
  · intro n i s hi hI k
    refine pk_le 3 i (fun _ => by omega) (fun _ => ⟨pk_in m 24 hm, ?_⟩)
    rw [em]
    refine br_f (nI_pos (by omega)) ⟨pk_in m 24 hm, pk_in g 5 hg, ?_⟩
    rw [bs_clk (n := g) (by omega), ep]
    refine br_f (nI_ge hi (by omega)) ⟨pk_in (3 * m + i) 75 (by omega) (bs_ix 3 m i), ?_⟩
    rw [bs_ix 3 m i, bs_clk (n := 3 * m + i) (by omega)]
    have keep : (¬ ∃ k, k < no ∧ SP (3 * m + i) = lN (4294967296 + k)) → wY_clear_28 post J17 x1 (nI m) y_classes y_supers y_objects y_specials y_depth y_ops y_held y_fault y_steps y_shownSteps y_result y_line y_lineLength y_has y_sealed y_initial y_drafted y_draftHas y_draftInitial y_lists y_listLength y_gone y_classOfObject y_slots y_parameters y_generic y_single y_special y_kind y_tokens y_with y_methodAt y_pc y_chosen y_many y_reached y_opsAt y_broken y_arguments y_operands y_operator y_got n s (nI (i + 1)) := by
      intro hn
      refine k s ?_
      rcases hI with ⟨e, h⟩ | ⟨e, j, hj, h⟩
      · exact Or.inl ⟨e, lt_s h hn⟩
      · exact Or.inr ⟨e, j, by omega, h⟩
    rcases hs i hi with ⟨e0, c, hc, e1, e2⟩ | ⟨e0, e1, hv⟩
    · rw [e0]
      refine br_t rfl (nm_r (cl_or s) (nm_r (nI_1 i) (keep ?_)))
      rintro ⟨q, hq, z⟩
      rw [e2] at z
      exact cl_c c q (by omega) (by omega) z
    · rw [e0]
      refine br_f (by decide) ⟨pk_in (3 * m + i) 75 (by omega), ?_⟩
      rcases hv with hv | ⟨q, hq, e⟩
      · refine br_t (cl_il hv) (nm_r (cl_or s) (nm_r (nI_1 i) (keep ?_)))
        rintro ⟨q, hq, z⟩
        rw [e1] at z
        rw [z] at hv
        exact ob_ni (by omega) hv
      · refine br_f (by rw [e]; exact cl_ol q (by omega)) (nm_r (e' := 1) ?_ (nm_r (nI_1 i) (k 1 (Or.inr ⟨rfl, i, by omega, q, hq, by rw [e1, e]⟩))))
        rcases hI with ⟨e, _⟩ | ⟨e, _⟩
        · rw [e]; rfl
        · rw [e]; rfl
theorem my_clear {post : Int32 → SY → Prop} {SP : Nat → Int64} {nc no nd : Nat} (hnc : nc ≤ 16) (hno : no ≤ 20) (hgen : rl_gen y_generic) (hpar : rl_par y_parameters) (hspc : rl_spc nc no nd y_generic y_parameters SP y_single y_special) (hp : post (nI no) (y_classes, y_supers, 0, 0, y_depth, y_ops, y_held, y_fault, y_steps, y_shownSteps, y_result, y_line, y_lineLength, y_has, y_sealed, y_initial, y_drafted, y_draftHas, y_draftInitial, y_lists, y_listLength, y_gone, y_classOfObject, y_slots, y_parameters, cl_f y_generic (cl_b y_parameters y_generic SP no) 24, y_single, y_special, y_kind, y_tokens, y_with, y_methodAt, y_pc, y_chosen, y_many, y_reached, y_opsAt, y_broken, y_arguments, y_operands, y_operator, y_got)) : wpY_clear post (y_classes, y_supers, nI no, y_specials, y_depth, y_ops, y_held, y_fault, y_steps, y_shownSteps, y_result, y_line, y_lineLength, y_has, y_sealed, y_initial, y_drafted, y_draftHas, y_draftInitial, y_lists, y_listLength, y_gone, y_classOfObject, y_slots, y_parameters, y_generic, y_single, y_special, y_kind, y_tokens, y_with, y_methodAt, y_pc, y_chosen, y_many, y_reached, y_opsAt, y_broken, y_arguments, y_operands, y_operator, y_got) := by
  unfold wpY_clear
  refine loop_0 (σ := Nat → Int32) (fun n i s => wY_clear_17 post (nI no) y_classes y_supers 0 0 y_depth y_ops y_held y_fault y_steps y_shownSteps y_result n (nI i) y_line y_lineLength y_has y_sealed y_initial y_drafted y_draftHas y_draftInitial y_lists y_listLength y_gone y_classOfObject y_slots y_parameters s y_single y_special y_kind y_tokens y_with y_methodAt y_pc y_chosen y_many y_reached y_opsAt y_broken y_arguments y_operands y_operator y_got) (fun i s => s = cl_f y_generic (cl_b y_parameters y_generic SP no) i) 24 y_generic (cl_0 _ _) ?_ ?_
  · rintro n s rfl
    exact br_t (nI_le (Nat.le_refl _) (by omega)) hp
  · rintro n m s hm rfl k
    refine br_f (nI_ge (b := 24) hm (by omega)) ?_
    have ei := cl_i y_generic (cl_b y_parameters y_generic SP no) m
    rcases hgen m hm with e | ⟨g, hg, e⟩
    · have hnb : ¬ cl_b y_parameters y_generic SP no m := by
        rintro ⟨g, p, i, q, hg, eg, _⟩
        rw [e] at eg
        exact bs_n1 (by omega) eg.symm
      refine ⟨1, br_f (nI_ge (a := 0) (b := 3) (by omega) (by omega)) ⟨pk_in m 24 hm, br_t ?_ (br_t rfl (nm_r (nI_1 m) (k _ (cl_n hnb))))⟩⟩
      rw [bs_clk (n := m) (by omega), ei, e]
      decide
    · obtain ⟨p, hp1, hp3, ep⟩ := hpar g hg
      refine my_cl28 (SP := SP) (nc := nc) (no := no) (p := p) (g := g) hm hg hp1 hp3 hnc hno (by rw [ei]; exact e) ep (fun q hq => hspc.2.2 m g p hm hg hp3 e ep q hq) (fun hz => br_t rfl (nm_r (nI_1 m) (k _ (cl_n ?_)))) (fun hz => br_f (by decide) ⟨pk_in m 24 hm, nm_r (e' := cl_f y_generic (cl_b y_parameters y_generic SP no) (m + 1)) ?_ (nm_r (nI_1 m) (k _ rfl))⟩)
      · rintro ⟨g', p', i, q, hg', eg, hp', ep', hi, hq, es⟩
        rw [e] at eg
        have := bs_inj (by omega) (by omega) eg
        subst this
        rw [ep] at ep'
        have := bs_inj (by omega) (by omega) ep'
        subst this
        exact hz i hi ⟨q, hq, es⟩
      · rw [bs_clk (by omega), bs_vm1]
        refine cl_t ?_
        obtain ⟨i, hi, q, hq, es⟩ := hz
        exact ⟨g, p, i, q, hg, e, hp3, ep, hi, hq, es⟩
end
theorem cl_inv {MG : Nat → Int32} {b : Nat → Prop} {i m g : Nat} (hg : g < 5) (hm : m < i) (h : cl_f MG b i m = nI g) : MG m = nI g ∧ ¬ b m := by
  by_cases h2 : m < i ∧ b m
  · have e : cl_f MG b i m = -1 := bs_ct h2
    rw [e] at h
    exact absurd h.symm (bs_n1 (by omega))
  · have e : cl_f MG b i m = MG m := bs_cf h2
    rw [e] at h
    exact ⟨h, fun z => h2 ⟨hm, z⟩⟩
theorem i_vc_clear {k : Nat} {u : SX} {v : SY} (I : i_Rel k u v) (hk : k + 9 ≤ 4608) : wpX_clear (fun r u' => wpY_clear (fun r' v' => r' = r ∧ i_Rel (k + 9) u' v') v) u := by
  obtain ⟨x_classCount, x_superCount, x_objectCount, x_draftSpecialCount, x_state, x_stepCount, x_latestValue, x_enterGeneric, x_enterPlace, x_frameCount, x_operatorCount, x_valueCount, x_lineClass, x_lineLength, x_isSealed, x_classHasSlot, x_classSlot, x_superDraft, x_objectClass, x_objectHasSlot, x_objectSlot, x_parameterCount, x_methodGeneric, x_specialiser, x_tokenKind, x_tokenValue, x_tokenCount, x_argument, x_rank, x_orderPlace, x_frameMethod, x_framePlace, x_frameToken, x_frameOperators, x_frameArgument, x_operatorKind, x_operatorValue, x_operatorLeft, x_workedOut⟩ := u
  obtain ⟨y_classes, y_supers, y_objects, y_specials, y_depth, y_ops, y_held, y_fault, y_steps, y_shownSteps, y_result, y_line, y_lineLength, y_has, y_sealed, y_initial, y_drafted, y_draftHas, y_draftInitial, y_lists, y_listLength, y_gone, y_classOfObject, y_slots, y_parameters, y_generic, y_single, y_special, y_kind, y_tokens, y_with, y_methodAt, y_pc, y_chosen, y_many, y_reached, y_opsAt, y_broken, y_arguments, y_operands, y_operator, y_got⟩ := v
  obtain ⟨nc, no, ns, nd, rfl, rfl, rfl, rfl, rfl, rfl, rfl, rfl, rfl, rfl, rfl, rfl, rfl, rfl, rfl, rfl, rfl, rfl, rfl, rfl, hcls, hsup, hslt, hobj, hpar, hgen, htok, hbod, hspc, hunq⟩ := I
  have hn : nc ≤ 16 := hcls.2.1
  have hno := hobj.1
  refine mx_clear hno hgen hpar (my_clear hn hno hgen hpar hspc ⟨rfl, ?_⟩)
  refine ⟨nc, 0, ns, 0, rfl, rfl, rfl, rfl, rfl, rfl, rfl, rfl, rfl, rfl, rfl, rfl, rfl, rfl, rfl, rfl, rfl, rfl, rfl, rfl, hcls, hsup, hslt, ⟨by omega, fun q hq => by omega, fun j hj => by omega⟩, hpar, fun m hm => ?_, htok, fun m g p t hm hg hp ht h1 h2 h3 => ?_, ⟨by omega, fun q hq => by omega, fun m g p hm hg hp h1 h2 q hq => ?_⟩, fun m n g p hm hn' hg hp h1 h2 h3 h4 => hunq m n g p hm hn' hg hp (cl_inv hg hm h1).1 (cl_inv hg hn' h2).1 h3 h4⟩
  · by_cases h2 : m < 24 ∧ cl_b x_parameterCount x_methodGeneric x_specialiser no m
    · exact Or.inl (bs_ct h2)
    · have e : cl_f x_methodGeneric (cl_b x_parameterCount x_methodGeneric x_specialiser no) 24 m = x_methodGeneric m := bs_cf h2
      rw [e]
      exact hgen m hm
  · exact hbod m g p t hm hg hp ht (cl_inv hg hm h1).1 h2 h3
  · obtain ⟨e, nb⟩ := cl_inv hg hm h1
    rcases hspc.2.2 m g p hm hg hp e h2 q hq with h | ⟨e0, e1, hv⟩
    · exact Or.inl h
    · refine Or.inr ⟨e0, e1, Or.inl ?_⟩
      rcases hv with hv | ⟨j, hj, ej⟩
      · exact hv
      · exact absurd ⟨g, p, q, j, hg, e, hp, h2, hq, hj, by rw [e1, ej]⟩ nb
end
section
def bt (x : Int32) (i : Nat) : Bool := x.toBitVec.getLsbD i
theorem b_ext {x y : Int32} (h : ∀ i, i < 32 → bt x i = bt y i) : x = y := Int32.toBitVec_inj.mp (BitVec.eq_of_getLsbD_eq (fun i hi => h i hi))
theorem b_or (x y : Int32) (i : Nat) : bt (x ||| y) i = (bt x i || bt y i) := by unfold bt; rw [Int32.toBitVec_or, BitVec.getLsbD_or]
theorem b_and (x y : Int32) (i : Nat) : bt (x &&& y) i = (bt x i && bt y i) := by unfold bt; rw [Int32.toBitVec_and, BitVec.getLsbD_and]
theorem b_xor (x y : Int32) (i : Nat) : bt (x ^^^ y) i = (bt x i ^^ bt y i) := by unfold bt; rw [Int32.toBitVec_xor, BitVec.getLsbD_xor]
theorem b_big {x : Int32} {i : Nat} (h : 32 ≤ i) : bt x i = false := BitVec.getLsbD_of_ge _ _ h
theorem b_m1 : ∀ i, i < 32 → bt (-1) i = true := by decide +kernel
theorem b_0 (i : Nat) : bt 0 i = false := BitVec.getLsbD_zero
theorem s_l : ∀ n, n < 32 → ((nI n &&& 31).toBitVec.smod 32).toNat = n := by decide +kernel
theorem b_shl (n : Nat) (hn : n < 32) (x : Int32) {i : Nat} (hi : i < 32) : bt (x <<< (nI n &&& 31)) i = (decide (n ≤ i) && bt x (i - n)) := by
  unfold bt
  rw [Int32.toBitVec_shiftLeft]
  show (x.toBitVec <<< ((nI n &&& 31).toBitVec.smod 32).toNat).getLsbD i = _
  rw [s_l n hn, BitVec.getLsbD_shiftLeft]
  rcases Nat.lt_or_ge i n with h | h
  · simp [h, Nat.not_le.mpr h]
  · simp [hi, h, Nat.not_lt.mpr h]
theorem b_sshr (n : Nat) (hn : n < 32) (x : Int32) {i : Nat} (hi : i < 32) : bt (x >>> (nI n &&& 31)) i = if n + i < 32 then bt x (n + i) else bt x 31 := by
  unfold bt
  rw [Int32.toBitVec_shiftRight]
  show (x.toBitVec.sshiftRight ((nI n &&& 31).toBitVec.smod 32).toNat).getLsbD i = _
  rw [s_l n hn, BitVec.getLsbD_sshiftRight, BitVec.msb_eq_getLsbD_last]
  simp [hi]
/-! bit sets of methods, and THE ORDER as a sequence of bit sets -/
theorem or_bt1 : ∀ i, i < 32 → bt 1 i = decide (i = 0) := by decide +kernel
theorem or_b1 (x : Int32) : x &&& 1 = 1 ↔ bt x 0 = true := by
  constructor
  · intro h
    have h1 := congrArg (fun y => bt y 0) h
    simp only [b_and, or_bt1 0 (by omega)] at h1
    simpa using h1
  · intro h
    refine b_ext (fun i hi => ?_)
    rw [b_and, or_bt1 i hi]
    by_cases e : i = 0
    · rw [e, h]; rfl
    · rw [decide_eq_false e, Bool.and_false]
theorem or_b0 (x : Int32) : x &&& 1 = 0 ↔ bt x 0 = false := by
  constructor
  · intro h
    have h1 := congrArg (fun y => bt y 0) h
    simp only [b_and, or_bt1 0 (by omega), b_0] at h1
    simpa using h1
  · intro h
    refine b_ext (fun i hi => ?_)
    rw [b_and, or_bt1 i hi, b_0]
    by_cases e : i = 0
    · rw [e, h]; rfl
    · rw [decide_eq_false e, Bool.and_false]
def or_bit (L : Int32) (m : Nat) : Prop := (L >>> (nI m &&& 31)) &&& 1 = 1
theorem or_bit_n {L : Int32} {m : Nat} : ¬ or_bit L m ↔ (L >>> (nI m &&& 31)) &&& 1 = 0 := by
  unfold or_bit
  rw [or_b1, or_b0]
  cases bt (L >>> (nI m &&& 31)) 0 <;> simp
theorem or_bit_t {L : Int32} {m : Nat} (hm : m < 32) : or_bit L m ↔ bt L m = true := by
  unfold or_bit
  rw [or_b1, b_sshr m hm L (by omega), if_pos (by omega)]
  exact Iff.rfl
theorem or_sh {a m : Nat} (ha : a < 32) (hm : m < 32) : bt ((1 : Int32) <<< (nI a &&& 31)) m = decide (m = a) := by
  rw [b_shl a ha 1 hm, or_bt1 (m - a) (by omega)]
  by_cases e : m = a
  · rw [decide_eq_true (show a ≤ m by omega), decide_eq_true (show m - a = 0 by omega), decide_eq_true e]; rfl
  · rw [decide_eq_false e]
    by_cases h : a ≤ m
    · rw [decide_eq_false (show ¬ m - a = 0 by omega), Bool.and_false]
    · rw [decide_eq_false h, Bool.false_and]
theorem or_set {L : Int32} {a m : Nat} (ha : a < 32) (hm : m < 32) : or_bit (L ||| ((1 : Int32) <<< (nI a &&& 31))) m ↔ or_bit L m ∨ m = a := by
  rw [or_bit_t hm, or_bit_t hm, b_or, or_sh ha hm, Bool.or_eq_true, decide_eq_true_eq]
theorem or_clr {L : Int32} {a m : Nat} (ha : a < 32) (hm : m < 32) : or_bit (L &&& (((1 : Int32) <<< (nI a &&& 31)) ^^^ (-1))) m ↔ or_bit L m ∧ m ≠ a := by
  rw [or_bit_t hm, or_bit_t hm, b_and, b_xor, or_sh ha hm, b_m1 m hm, Bool.and_eq_true]
  by_cases e : m = a
  · simp [e]
  · simp [e]
theorem or_bit0 {m : Nat} (hm : m < 32) : ¬ or_bit 0 m := by
  rw [or_bit_t hm, b_0]
  exact Bool.false_ne_true
/-- how many below n -/
noncomputable def or_cn (p : Nat → Prop) : Nat → Nat
  | 0 => 0
  | n + 1 => or_cn p n + bs_ci (p n) 1 0
theorem or_cn_t {p : Nat → Prop} {n : Nat} (h : p n) : or_cn p (n + 1) = or_cn p n + 1 := by
  show or_cn p n + bs_ci (p n) 1 0 = _
  rw [bs_ct h]
theorem or_cn_f {p : Nat → Prop} {n : Nat} (h : ¬ p n) : or_cn p (n + 1) = or_cn p n := by
  show or_cn p n + bs_ci (p n) 1 0 = _
  rw [bs_cf h]; rfl
theorem or_cn_le (p : Nat → Prop) : ∀ n, or_cn p n ≤ n := by
  intro n
  induction n with
  | zero => exact Nat.le_refl _
  | succ n ih =>
    by_cases h : p n
    · rw [or_cn_t h]; omega
    · rw [or_cn_f h]; omega
theorem or_cn_mono {p q : Nat → Prop} : ∀ n, (∀ i, i < n → q i → p i) → or_cn q n ≤ or_cn p n := by
  intro n
  induction n with
  | zero => exact fun _ => Nat.le_refl _
  | succ n ih =>
    intro h
    have h1 := ih (fun i hi => h i (by omega))
    by_cases hq : q n
    · rw [or_cn_t hq, or_cn_t (h n (by omega) hq)]; omega
    · rw [or_cn_f hq]
      by_cases hp : p n
      · rw [or_cn_t hp]; omega
      · rw [or_cn_f hp]; exact h1
theorem or_cn_lt {p q : Nat → Prop} {a : Nat} (hpa : p a) (hqa : ¬ q a) : ∀ n, a < n → (∀ i, i < n → q i → p i) → or_cn q n < or_cn p n := by
  intro n
  induction n with
  | zero => intro h; omega
  | succ n ih =>
    intro han h
    by_cases e : a = n
    · subst e
      rw [or_cn_f hqa, or_cn_t hpa]
      have := or_cn_mono a (fun i hi => h i (by omega))
      omega
    · have h1 := ih (by omega) (fun i hi => h i (by omega))
      by_cases hq : q n
      · rw [or_cn_t hq, or_cn_t (h n (by omega) hq)]; omega
      · rw [or_cn_f hq]
        by_cases hp : p n
        · rw [or_cn_t hp]; omega
        · rw [or_cn_f hp]; exact h1
theorem or_cn_pos {p : Nat → Prop} {a n : Nat} (ha : a < n) (h : p a) : 0 < or_cn p n := by
  have h1 := or_cn_lt (q := fun _ => False) h (fun z => z) n ha (fun i _ z => z.elim)
  omega
theorem or_cn_c {p q : Nat → Prop} (n : Nat) (h : ∀ i, i < n → (p i ↔ q i)) : or_cn p n = or_cn q n :=
  Nat.le_antisymm (or_cn_mono n (fun i hi => (h i hi).mp)) (or_cn_mono n (fun i hi => (h i hi).mpr))
/-- the bit set of those below n with P -/
noncomputable def or_ap (P : Nat → Prop) : Nat → Int32
  | 0 => 0
  | m + 1 => bs_ci (P m) (or_ap P m ||| ((1 : Int32) <<< (nI m &&& 31))) (or_ap P m)
theorem or_ap_t {P : Nat → Prop} {m : Nat} (h : P m) : or_ap P m ||| ((1 : Int32) <<< (nI m &&& 31)) = or_ap P (m + 1) := (bs_ct h).symm
theorem or_ap_f {P : Nat → Prop} {m : Nat} (h : ¬ P m) : or_ap P m = or_ap P (m + 1) := (bs_cf h).symm
theorem or_ap_b {P : Nat → Prop} : ∀ n, n ≤ 32 → ∀ m, m < 32 → (or_bit (or_ap P n) m ↔ m < n ∧ P m) := by
  intro n
  induction n with
  | zero => exact fun _ m hm => ⟨fun z => absurd z (or_bit0 hm), fun z => absurd z.1 (Nat.not_lt_zero m)⟩
  | succ n ih =>
    intro hn m hm
    have h1 := ih (by omega) m hm
    by_cases h : P n
    · rw [← or_ap_t h, or_set (by omega) hm, h1]
      constructor
      · rintro (z | z)
        · exact ⟨by omega, z.2⟩
        · rw [z]; exact ⟨by omega, h⟩
      · rintro ⟨z1, z2⟩
        by_cases e : m = n
        · exact Or.inr e
        · exact Or.inl ⟨by omega, z2⟩
    · rw [← or_ap_f h, h1]
      constructor
      · rintro ⟨z1, z2⟩
        exact ⟨by omega, z2⟩
      · rintro ⟨z1, z2⟩
        by_cases e : m = n
        · rw [e] at z2; exact absurd z2 h
        · exact ⟨by omega, z2⟩
/-- the method of the set that precedes all others; R: ranks, p: how many parameters -/
def or_good (R : Nat → Nat → Int32) (p : Nat) (L : Int32) (m : Nat) : Prop := or_bit L m ∧ ∀ n, n < 24 → n ≠ m → or_bit L n → ∀ k, k < p → R m k ≤ R n k
noncomputable def or_ld (R : Nat → Nat → Int32) (p : Nat) (L : Int32) : Nat := bs_fi (or_good R p L) 24
noncomputable def or_sq (R : Nat → Nat → Int32) (p : Nat) (L : Int32) : Nat → Int32
  | 0 => L
  | q + 1 => bs_ci (or_ld R p (or_sq R p L q) < 24) (or_sq R p L q &&& (((1 : Int32) <<< (nI (or_ld R p (or_sq R p L q)) &&& 31)) ^^^ (-1))) (or_sq R p L q)
theorem or_sq_t {R : Nat → Nat → Int32} {p q : Nat} {L : Int32} (h : or_ld R p (or_sq R p L q) < 24) : or_sq R p L q &&& (((1 : Int32) <<< (nI (or_ld R p (or_sq R p L q)) &&& 31)) ^^^ (-1)) = or_sq R p L (q + 1) := (bs_ct h).symm
theorem or_sq_f {R : Nat → Nat → Int32} {p q : Nat} {L : Int32} (h : ¬ or_ld R p (or_sq R p L q) < 24) : or_sq R p L q = or_sq R p L (q + 1) := (bs_cf h).symm
theorem or_sq_sub {R : Nat → Nat → Int32} {p : Nat} {L : Int32} : ∀ q m, m < 24 → or_bit (or_sq R p L q) m → or_bit L m := by
  intro q
  induction q with
  | zero => exact fun m _ h => h
  | succ q ih =>
    intro m hm h
    by_cases hl : or_ld R p (or_sq R p L q) < 24
    · rw [← or_sq_t hl, or_clr (by omega) (by omega)] at h
      exact ih m hm h.1
    · rw [← or_sq_f hl] at h
      exact ih m hm h
noncomputable def or_mn (R : Nat → Nat → Int32) (p : Nat) (L : Int32) : Nat := bs_fi (fun q => ¬ or_ld R p (or_sq R p L q) < 24) 24
theorem or_mn_le (R : Nat → Nat → Int32) (p : Nat) (L : Int32) : or_mn R p L ≤ 24 := bs_fi_le _ _
theorem or_mn_lt {R : Nat → Nat → Int32} {p q : Nat} {L : Int32} (h : q < or_mn R p L) : or_ld R p (or_sq R p L q) < 24 := Classical.not_not.mp (bs_fi_lt h)
theorem or_sq_cn {R : Nat → Nat → Int32} {p : Nat} {L : Int32} : ∀ q, q ≤ or_mn R p L → or_cn (or_bit (or_sq R p L q)) 24 + q ≤ 24 := by
  intro q
  induction q with
  | zero =>
    intro _
    have h0 := or_cn_le (or_bit (or_sq R p L 0)) 24
    omega
  | succ q ih =>
    intro hq
    have h1 := ih (by omega)
    have hl := or_mn_lt (q := q) (R := R) (p := p) (L := L) (by omega)
    have hg := bs_fi_p (p := or_good R p (or_sq R p L q)) hl
    have h2 := or_cn_lt (p := or_bit (or_sq R p L q)) (q := or_bit (or_sq R p L (q + 1))) (a := or_ld R p (or_sq R p L q)) hg.1 (by rw [← or_sq_t hl, or_clr (by omega) (by omega)]; exact fun z => z.2 rfl) 24 hl (fun i hi hz => by rw [← or_sq_t hl, or_clr (by omega) (by omega)] at hz; exact hz.1)
    omega
theorem or_mn_no {R : Nat → Nat → Int32} {p : Nat} {L : Int32} : ¬ or_ld R p (or_sq R p L (or_mn R p L)) < 24 := by
  intro h
  have h1 := or_sq_cn (R := R) (p := p) (L := L) (or_mn R p L) (Nat.le_refl _)
  have hg := bs_fi_p (p := or_good R p (or_sq R p L (or_mn R p L))) h
  have h2 := or_cn_pos (n := 24) h hg.1
  have h3 : or_mn R p L < 24 := by omega
  exact bs_fi_p (p := fun q => ¬ or_ld R p (or_sq R p L q) < 24) h3 h
theorem or_sq_st {R : Nat → Nat → Int32} {p : Nat} {L : Int32} : ∀ d, or_sq R p L (or_mn R p L + d) = or_sq R p L (or_mn R p L) := by
  intro d
  induction d with
  | zero => rfl
  | succ d ih =>
    have h := or_mn_no (R := R) (p := p) (L := L)
    rw [← ih] at h
    rw [← ih]
    exact (or_sq_f h).symm
theorem or_sq_ge {R : Nat → Nat → Int32} {p q : Nat} {L : Int32} (h : or_mn R p L ≤ q) : or_sq R p L q = or_sq R p L (or_mn R p L) := by
  have := or_sq_st (R := R) (p := p) (L := L) (q - or_mn R p L)
  rw [Nat.add_sub_cancel' h] at this
  exact this
/-- X's place q of the order -/
noncomputable def or_ox (R : Nat → Nat → Int32) (p : Nat) (L : Int32) : Int32 := bs_ci (or_ld R p L < 24) (nI (or_ld R p L)) (bs_ci (L = 0) (-1) (-2))
theorem or_ox_lt {R : Nat → Nat → Int32} {p q : Nat} {L : Int32} (h : q < or_mn R p L) : or_ox R p (or_sq R p L q) = nI (or_ld R p (or_sq R p L q)) := bs_ct (or_mn_lt h)
theorem or_ox_ge {R : Nat → Nat → Int32} {p q : Nat} {L : Int32} (h : or_mn R p L ≤ q) : or_ox R p (or_sq R p L q) = bs_ci (or_sq R p L (or_mn R p L) = 0) (-1) (-2) := by
  rw [or_sq_ge h]
  exact bs_cf or_mn_no
end
section
/-! ranks: near, applicable, precedes -/
noncomputable def or_pl (LC LL : Nat → Int32) (c : Nat) (s : Int32) : Int32 := bs_sr (fun k => LC (16 * c + k) = s) (LL c).toNatClampNeg
theorem or_pl_c {LC LL : Nat → Int32} {c l : Nat} {s : Int32} (hl : l ≤ 16) (el : LL c = nI l) : or_pl LC LL c s = -1 ∨ ∃ j, j < 16 ∧ or_pl LC LL c s = nI j := by
  unfold or_pl
  rw [el, bs_clk (by omega)]
  rcases bs_sr_c (p := fun k => LC (16 * c + k) = s) (n := l) with ⟨i, hi, _, _, e⟩ | ⟨_, e⟩
  · exact Or.inr ⟨i, by omega, e⟩
  · exact Or.inl e
noncomputable def or_p1 (x : Int32) : Int32 := bs_ci (x = -1) (-1) (x + 1)
noncomputable def or_cv (OC : Nat → Int32) (v : Int64) : Int32 := bs_ci (rl_int v) 1 (OC (v - 4294967296).toInt32.toNatClampNeg)
noncomputable def or_nr (LC LL OC : Nat → Int32) (sp v : Int64) : Int32 := bs_ci (sp = v) 0 (bs_ci (8589934592 ≤ sp) (or_p1 (or_pl LC LL (or_cv OC v).toNatClampNeg (sp - 8589934592).toInt32)) (-1))
def or_W (nc no g p : Nat) (LC LL OC PC : Nat → Int32) (ar : Nat → Int64) : Prop := rl_cls nc LC LL ∧ no ≤ 20 ∧ (∀ k, k < no → ∃ c, c < nc ∧ OC k = nI c) ∧ g < 5 ∧ 1 ≤ p ∧ p ≤ 3 ∧ PC g = nI p ∧ ∀ k, k < p → rl_val no (ar k)
theorem or_cv_v {nc no : Nat} {OC : Nat → Int32} {v : Int64} (h2 : 2 ≤ nc) (hno : no ≤ 20) (hoc : ∀ k, k < no → ∃ c, c < nc ∧ OC k = nI c) (hv : rl_val no v) : ∃ c, c < nc ∧ or_cv OC v = nI c ∧ ob_kc OC no v = nI c := by
  rcases hv with hi | ⟨k, hk, rfl⟩
  · exact ⟨1, by omega, bs_ct hi, ob_kc_i hi⟩
  · obtain ⟨c, hc, e⟩ := hoc k hk
    refine ⟨c, hc, ?_, ?_⟩
    · unfold or_cv
      rw [bs_cf (ob_ni (by omega)), ob_ix (by omega), bs_clk (by omega), e]
    · rw [ob_kc_o hno hk, e]
theorem or_nr_c {nc no : Nat} {LC LL OC : Nat → Int32} {sp v : Int64} (hcls : rl_cls nc LC LL) (hno : no ≤ 20) (hoc : ∀ k, k < no → ∃ c, c < nc ∧ OC k = nI c) (hv : rl_val no v) : or_nr LC LL OC sp v = -1 ∨ ∃ j, j < 18 ∧ or_nr LC LL OC sp v = nI j := by
  unfold or_nr
  by_cases h1 : sp = v
  · rw [bs_ct h1]; exact Or.inr ⟨0, by omega, rfl⟩
  · rw [bs_cf h1]
    by_cases h2 : 8589934592 ≤ sp
    · rw [bs_ct h2]
      obtain ⟨c, hc, ec, _⟩ := or_cv_v hcls.1 hno hoc hv
      have h16 := hcls.2.1
      rw [ec, bs_clk (by omega)]
      obtain ⟨l, hl, el, _⟩ := hcls.2.2 c hc
      rcases or_pl_c (LC := LC) (s := (sp - 8589934592).toInt32) hl el with e | ⟨j, hj, e⟩
      · rw [e]; exact Or.inl (bs_ct rfl)
      · rw [e]
        refine Or.inr ⟨j + 1, by omega, ?_⟩
        unfold or_p1
        rw [bs_cf (bs_n1 (by omega)), nI_1]
    · rw [bs_cf h2]; exact Or.inl rfl
noncomputable def or_R (LC LL OC : Nat → Int32) (SP ar : Nat → Int64) (p : Nat) : Nat → Nat → Int32 := fun m k => bs_ci (k < p) (or_nr LC LL OC (SP (3 * m + k)) (ar k)) 0
theorem or_R_k {LC LL OC : Nat → Int32} {SP ar : Nat → Int64} {p m k : Nat} (hk : k < p) : or_R LC LL OC SP ar p m k = or_nr LC LL OC (SP (3 * m + k)) (ar k) := bs_ct hk
def or_app (R : Nat → Nat → Int32) (p m : Nat) : Prop := ∀ k, k < p → ¬ R m k = -1
theorem or_ge0 {x : Int32} (h : x = -1 ∨ ∃ j, j < 18 ∧ x = nI j) : 0 ≤ x ↔ ¬ x = -1 := by
  rcases h with rfl | ⟨j, hj, rfl⟩
  · exact ⟨fun z => absurd z (by decide), fun z => absurd rfl z⟩
  · exact ⟨fun _ => bs_n1 (by omega), fun _ => bs_ge0 (by omega)⟩
section
variable {x_classCount : Int32} {x_superCount : Int32} {x_objectCount : Int32} {x_draftSpecialCount : Int32} {x_state : Int32} {x_stepCount : Int32} {x_latestValue : Int64} {x_enterGeneric : Int32} {x_enterPlace : Int32} {x_frameCount : Int32} {x_operatorCount : Int32} {x_valueCount : Int32} {x_lineClass : Nat → Int32} {x_lineLength : Nat → Int32} {x_isSealed : Nat → Int32} {x_classHasSlot : Nat → Int32} {x_classSlot : Nat → Int32} {x_superDraft : Nat → Int32} {x_objectClass : Nat → Int32} {x_objectHasSlot : Nat → Int32} {x_objectSlot : Nat → Int64} {x_parameterCount : Nat → Int32} {x_methodGeneric : Nat → Int32} {x_specialiser : Nat → Int64} {x_tokenKind : Nat → Int32} {x_tokenValue : Nat → Int32} {x_tokenCount : Nat → Int32} {x_argument : Nat → Int64} {x_rank : Nat → Int32} {x_orderPlace : Nat → Int32} {x_frameMethod : Nat → Int32} {x_framePlace : Nat → Int32} {x_frameToken : Nat → Int32} {x_frameOperators : Nat → Int32} {x_frameArgument : Nat → Int64} {x_operatorKind : Nat → Int32} {x_operatorValue : Nat → Int32} {x_operatorLeft : Nat → Int32} {x_workedOut : Nat → Int64} {y_classes : Int32} {y_supers : Int32} {y_objects : Int32} {y_specials : Int32} {y_depth : Int32} {y_ops : Int32} {y_held : Int32} {y_fault : Int32} {y_steps : Int32} {y_shownSteps : Int32} {y_result : Int64} {y_line : Nat → Int32} {y_lineLength : Nat → Int32} {y_has : Nat → Int32} {y_sealed : Nat → Int32} {y_initial : Nat → Int32} {y_drafted : Nat → Int32} {y_draftHas : Nat → Int32} {y_draftInitial : Nat → Int32} {y_lists : Nat → Int32} {y_listLength : Nat → Int32} {y_gone : Nat → Int32} {y_classOfObject : Nat → Int32} {y_slots : Nat → Int64} {y_parameters : Nat → Int32} {y_generic : Nat → Int32} {y_single : Nat → Int32} {y_special : Nat → Int64} {y_kind : Nat → Int32} {y_tokens : Nat → Int32} {y_with : Nat → Int32} {y_methodAt : Nat → Int32} {y_pc : Nat → Int32} {y_chosen : Nat → Int32} {y_many : Nat → Int32} {y_reached : Nat → Int32} {y_opsAt : Nat → Int32} {y_broken : Nat → Int32} {y_arguments : Nat → Int64} {y_operands : Nat → Int64} {y_operator : Nat → Int32} {y_got : Nat → Int32}
theorem mx_placeInLine {post : Int32 → Prop} {c l : Nat} {s : Int32} (hc : c < 16) (hl : l ≤ 16) (el : x_lineLength c = nI l) (hp : post (or_pl x_lineClass x_lineLength c s)) : wpX_placeInLine post (x_classCount, x_superCount, x_objectCount, x_draftSpecialCount, x_state, x_stepCount, x_latestValue, x_enterGeneric, x_enterPlace, x_frameCount, x_operatorCount, x_valueCount, x_lineClass, x_lineLength, x_isSealed, x_classHasSlot, x_classSlot, x_superDraft, x_objectClass, x_objectHasSlot, x_objectSlot, x_parameterCount, x_methodGeneric, x_specialiser, x_tokenKind, x_tokenValue, x_tokenCount, x_argument, x_rank, x_orderPlace, x_frameMethod, x_framePlace, x_frameToken, x_frameOperators, x_frameArgument, x_operatorKind, x_operatorValue, x_operatorLeft, x_workedOut) (nI c) s := by
  unfold or_pl at hp
  rw [el, bs_clk (by omega)] at hp
  unfold wpX_placeInLine
  refine loop_0 (σ := Unit) (fun n i _ => wX_placeInLine_2 post (nI c) s x_classCount x_superCount x_objectCount x_draftSpecialCount x_state x_stepCount x_latestValue x_enterGeneric x_enterPlace x_frameCount x_operatorCount x_valueCount x_lineClass x_lineLength x_isSealed x_classHasSlot x_classSlot x_superDraft x_objectClass x_objectHasSlot x_objectSlot x_parameterCount x_methodGeneric x_specialiser x_tokenKind x_tokenValue x_tokenCount x_argument x_rank x_orderPlace x_frameMethod x_framePlace x_frameToken x_frameOperators x_frameArgument x_operatorKind x_operatorValue x_operatorLeft x_workedOut n (nI i)) (fun i _ => ∀ j, j < i → ¬ x_lineClass (16 * c + j) = s) l () lt_0 ?_ ?_
  · intro n _ hI
    refine ⟨pk_in c 16 hc, ?_⟩
    rw [bs_clk (n := c) (by omega), el]
    rw [bs_sr_no hI] at hp
    exact br_t (nI_le (Nat.le_refl _) (by omega)) hp
  · intro n i _ hi hI k
    refine ⟨pk_in c 16 hc, ?_⟩
    rw [bs_clk (n := c) (by omega), el]
    refine br_f (nI_ge hi (by omega)) ⟨pk_in (16 * c + i) 256 (by omega) (bs_xi 16 c i), ?_⟩
    rw [bs_xi 16 c i, bs_clk (n := 16 * c + i) (by omega)]
    refine br_c (fun e => ?_) (fun e => nm_r (nI_1 i) (k () (lt_s hI e)))
    rw [bs_sr_at hi e hI] at hp
    exact hp
theorem my_place {post : Int32 → Prop} {c l : Nat} {s : Int32} (hc : c < 16) (hl : l ≤ 16) (el : y_lineLength c = nI l) (hp : post (or_pl y_line y_lineLength c s)) : wpY_place post (y_classes, y_supers, y_objects, y_specials, y_depth, y_ops, y_held, y_fault, y_steps, y_shownSteps, y_result, y_line, y_lineLength, y_has, y_sealed, y_initial, y_drafted, y_draftHas, y_draftInitial, y_lists, y_listLength, y_gone, y_classOfObject, y_slots, y_parameters, y_generic, y_single, y_special, y_kind, y_tokens, y_with, y_methodAt, y_pc, y_chosen, y_many, y_reached, y_opsAt, y_broken, y_arguments, y_operands, y_operator, y_got) (nI c) s := by
  unfold or_pl at hp
  rw [el, bs_clk (by omega)] at hp
  unfold wpY_place
  refine loop_0 (σ := Unit) (fun n i _ => wY_place_2 post (nI c) s y_classes y_supers y_objects y_specials y_depth y_ops y_held y_fault y_steps y_shownSteps y_result y_line y_lineLength y_has y_sealed y_initial y_drafted y_draftHas y_draftInitial y_lists y_listLength y_gone y_classOfObject y_slots y_parameters y_generic y_single y_special y_kind y_tokens y_with y_methodAt y_pc y_chosen y_many y_reached y_opsAt y_broken y_arguments y_operands y_operator y_got n (nI i)) (fun i _ => ∀ j, j < i → ¬ y_line (16 * c + j) = s) l () lt_0 ?_ ?_
  · intro n _ hI
    refine ⟨pk_in c 16 hc, ?_⟩
    rw [bs_clk (n := c) (by omega), el]
    rw [bs_sr_no hI] at hp
    exact br_t (nI_le (Nat.le_refl _) (by omega)) hp
  · intro n i _ hi hI k
    refine ⟨pk_in c 16 hc, ?_⟩
    rw [bs_clk (n := c) (by omega), el]
    refine br_f (nI_ge hi (by omega)) ⟨pk_in (16 * c + i) 256 (by omega) (bs_ix 16 c i), ?_⟩
    rw [bs_ix 16 c i, bs_clk (n := 16 * c + i) (by omega)]
    refine br_c (fun e => ?_) (fun e => nm_r (nI_1 i) (k () (lt_s hI e)))
    rw [bs_sr_at hi e hI] at hp
    exact hp
theorem mx_rank41 {post : Int32 → Prop} {nc c : Nat} {sp : Int64} (hcls : rl_cls nc x_lineClass x_lineLength) (hc : c < nc) (hp : post (or_p1 (or_pl x_lineClass x_lineLength c (sp - 8589934592).toInt32))) : wX_rankOf_41 post sp (nI c) x_classCount x_superCount x_objectCount x_draftSpecialCount x_state x_stepCount x_latestValue x_enterGeneric x_enterPlace x_frameCount x_operatorCount x_valueCount x_lineClass x_lineLength x_isSealed x_classHasSlot x_classSlot x_superDraft x_objectClass x_objectHasSlot x_objectSlot x_parameterCount x_methodGeneric x_specialiser x_tokenKind x_tokenValue x_tokenCount x_argument x_rank x_orderPlace x_frameMethod x_framePlace x_frameToken x_frameOperators x_frameArgument x_operatorKind x_operatorValue x_operatorLeft x_workedOut := by
  have h16 := hcls.2.1
  obtain ⟨l, hl, el, _⟩ := hcls.2.2 c hc
  refine nm_e (mx_placeInLine (by omega) hl el ?_)
  refine br_c (fun e => ?_) (fun e => ?_)
  · unfold or_p1 at hp; rw [bs_ct e] at hp; exact hp
  · unfold or_p1 at hp; rw [bs_cf e] at hp; exact hp
theorem mx_rankOf {post : Int32 → Prop} {nc no : Nat} {sp v : Int64} (hcls : rl_cls nc x_lineClass x_lineLength) (hno : no ≤ 20) (hoc : ∀ k, k < no → ∃ c, c < nc ∧ x_objectClass k = nI c) (hv : rl_val no v) (hp : post (or_nr x_lineClass x_lineLength x_objectClass sp v)) : wpX_rankOf post (x_classCount, x_superCount, x_objectCount, x_draftSpecialCount, x_state, x_stepCount, x_latestValue, x_enterGeneric, x_enterPlace, x_frameCount, x_operatorCount, x_valueCount, x_lineClass, x_lineLength, x_isSealed, x_classHasSlot, x_classSlot, x_superDraft, x_objectClass, x_objectHasSlot, x_objectSlot, x_parameterCount, x_methodGeneric, x_specialiser, x_tokenKind, x_tokenValue, x_tokenCount, x_argument, x_rank, x_orderPlace, x_frameMethod, x_framePlace, x_frameToken, x_frameOperators, x_frameArgument, x_operatorKind, x_operatorValue, x_operatorLeft, x_workedOut) sp v := by
  have h16 := hcls.2.1
  unfold wpX_rankOf
  unfold or_nr at hp
  refine br_c (fun e => ?_) (fun ne => br_c (fun ge => ?_) (fun lt => ?_))
  · rw [bs_ct e] at hp; exact hp
  · rw [bs_cf ne, bs_ct ge] at hp
    rcases hv with hi | ⟨k, hk, rfl⟩
    · refine mx_isInt_t hi (br_f (by decide) ?_)
      have e1 : or_cv x_objectClass v = 1 := bs_ct hi
      rw [e1] at hp
      exact mx_rank41 (c := 1) hcls hcls.1 hp
    · obtain ⟨c, hc, e⟩ := hoc k hk
      have e1 : or_cv x_objectClass (lN (4294967296 + k)) = nI c := by
        unfold or_cv
        rw [bs_cf (ob_ni (by omega)), ob_ix (by omega), bs_clk (by omega), e]
      rw [e1, bs_clk (by omega)] at hp
      refine mx_isInt_f (ob_ni (by omega)) (br_t rfl ⟨pk_in k 20 (by omega) (ob_ix (by omega)), ?_⟩)
      rw [ob_ix (by omega), bs_clk (n := k) (by omega), e]
      exact mx_rank41 hcls hc hp
  · rw [bs_cf ne, bs_cf lt] at hp; exact hp
theorem my_near {post : Int32 → Prop} {nc no m k : Nat} {sp v : Int64} (hcls : rl_cls nc y_line y_lineLength) (hno : no ≤ 20) (hoc : ∀ k, k < no → ∃ c, c < nc ∧ y_classOfObject k = nI c) (hv : rl_val no v) (hm : m < 24) (hk : k < 3) (hs : rl_sp nc no sp (y_single (3 * m + k)) (y_special (3 * m + k))) (hp : post (or_nr y_line y_lineLength y_classOfObject sp v)) : wpY_near post (y_classes, y_supers, nI no, y_specials, y_depth, y_ops, y_held, y_fault, y_steps, y_shownSteps, y_result, y_line, y_lineLength, y_has, y_sealed, y_initial, y_drafted, y_draftHas, y_draftInitial, y_lists, y_listLength, y_gone, y_classOfObject, y_slots, y_parameters, y_generic, y_single, y_special, y_kind, y_tokens, y_with, y_methodAt, y_pc, y_chosen, y_many, y_reached, y_opsAt, y_broken, y_arguments, y_operands, y_operator, y_got) (nI m) (nI k) v := by
  have h16 := hcls.2.1
  unfold wpY_near
  unfold or_nr at hp
  refine ⟨pk_in (3 * m + k) 75 (by omega) (bs_ix 3 m k), nm_r (e' := y_special (3 * m + k)) (by rw [bs_ix 3 m k, bs_clk (by omega)]) ⟨pk_in (3 * m + k) 75 (by omega) (bs_ix 3 m k), ?_⟩⟩
  rw [bs_ix 3 m k, bs_clk (n := 3 * m + k) (by omega)]
  rcases hs with ⟨e0, c, hc, e1, e2⟩ | ⟨e0, e1, hv2⟩
  · rw [e0, e1]
    obtain ⟨d, hd, ed, ek⟩ := or_cv_v hcls.1 hno hoc hv
    obtain ⟨l, hl, el, _⟩ := hcls.2.2 d hd
    have hne : ¬ sp = v := by
      rw [e2]
      rintro rfl
      rcases hv with hi | ⟨q, hq, e⟩
      · have h1 := cl_il hi
        rw [ob_K, pk_lLT (by omega) (by omega)] at h1
        omega
      · exact cl_c c q (by omega) (by omega) e
    have hge : 8589934592 ≤ sp := by
      rw [e2, show (8589934592 : Int64) = lN 8589934592 from by decide, pk_lLE (by omega) (by omega)]
      omega
    have hsub : (sp - 8589934592).toInt32 = nI c := by
      rw [e2, show (8589934592 : Int64) = lN 8589934592 from by decide, lN_sub (by omega), Nat.add_sub_cancel_left, lN_i]
    rw [bs_cf hne, bs_ct hge, ed, bs_clk (by omega), hsub] at hp
    refine br_t rfl (my_classOf hno ?_)
    rw [ek]
    refine my_place (by omega) hl el ?_
    rw [lN_i]
    rcases or_pl_c (LC := y_line) (s := nI c) hl el with e | ⟨j, hj, e⟩
    · rw [e] at hp ⊢
      unfold or_p1 at hp
      rw [bs_ct rfl] at hp
      exact br_f (by decide) hp
    · rw [e] at hp ⊢
      unfold or_p1 at hp
      rw [bs_cf (bs_n1 (by omega))] at hp
      exact br_t (bs_ge0 (by omega)) hp
  · rw [e0, ← e1]
    refine br_f (by decide) (br_c (fun e => ?_) (fun ne => ?_))
    · rw [bs_ct e] at hp; exact hp
    · have hlt : ¬ 8589934592 ≤ sp := by
        rw [e1]
        intro z
        rw [show (8589934592 : Int64) = lN 8589934592 from by decide] at z
        rcases hv2 with hi | ⟨q, hq, e⟩
        · have h1 := cl_il hi
          rw [Int64.lt_iff_toInt_lt, ob_K, pk_lT (by omega)] at h1
          rw [Int64.le_iff_toInt_le, pk_lT (by omega)] at z
          omega
        · rw [e, pk_lLE (by omega) (by omega)] at z
          omega
      rw [bs_cf ne, bs_cf hlt] at hp; exact hp
end
end
section
/-! applicable, precedes, leader -/
section
variable {x_classCount : Int32} {x_superCount : Int32} {x_objectCount : Int32} {x_draftSpecialCount : Int32} {x_state : Int32} {x_stepCount : Int32} {x_latestValue : Int64} {x_enterGeneric : Int32} {x_enterPlace : Int32} {x_frameCount : Int32} {x_operatorCount : Int32} {x_valueCount : Int32} {x_lineClass : Nat → Int32} {x_lineLength : Nat → Int32} {x_isSealed : Nat → Int32} {x_classHasSlot : Nat → Int32} {x_classSlot : Nat → Int32} {x_superDraft : Nat → Int32} {x_objectClass : Nat → Int32} {x_objectHasSlot : Nat → Int32} {x_objectSlot : Nat → Int64} {x_parameterCount : Nat → Int32} {x_methodGeneric : Nat → Int32} {x_specialiser : Nat → Int64} {x_tokenKind : Nat → Int32} {x_tokenValue : Nat → Int32} {x_tokenCount : Nat → Int32} {x_argument : Nat → Int64} {x_rank : Nat → Int32} {x_orderPlace : Nat → Int32} {x_frameMethod : Nat → Int32} {x_framePlace : Nat → Int32} {x_frameToken : Nat → Int32} {x_frameOperators : Nat → Int32} {x_frameArgument : Nat → Int64} {x_operatorKind : Nat → Int32} {x_operatorValue : Nat → Int32} {x_operatorLeft : Nat → Int32} {x_workedOut : Nat → Int64} {y_classes : Int32} {y_supers : Int32} {y_objects : Int32} {y_specials : Int32} {y_depth : Int32} {y_ops : Int32} {y_held : Int32} {y_fault : Int32} {y_steps : Int32} {y_shownSteps : Int32} {y_result : Int64} {y_line : Nat → Int32} {y_lineLength : Nat → Int32} {y_has : Nat → Int32} {y_sealed : Nat → Int32} {y_initial : Nat → Int32} {y_drafted : Nat → Int32} {y_draftHas : Nat → Int32} {y_draftInitial : Nat → Int32} {y_lists : Nat → Int32} {y_listLength : Nat → Int32} {y_gone : Nat → Int32} {y_classOfObject : Nat → Int32} {y_slots : Nat → Int64} {y_parameters : Nat → Int32} {y_generic : Nat → Int32} {y_single : Nat → Int32} {y_special : Nat → Int64} {y_kind : Nat → Int32} {y_tokens : Nat → Int32} {y_with : Nat → Int32} {y_methodAt : Nat → Int32} {y_pc : Nat → Int32} {y_chosen : Nat → Int32} {y_many : Nat → Int32} {y_reached : Nat → Int32} {y_opsAt : Nat → Int32} {y_broken : Nat → Int32} {y_arguments : Nat → Int64} {y_operands : Nat → Int64} {y_operator : Nat → Int32} {y_got : Nat → Int32}
theorem mx_rankMethod {post : Int32 → SX → Prop} {nc no g p m : Nat} {ar : Nat → Int64} (hW : or_W nc no g p x_lineClass x_lineLength x_objectClass x_parameterCount ar) (hm : m < 24) (eg : x_methodGeneric m = nI g) (ha : ∀ k, k < p → x_argument k = ar k)
    (hp : ∀ rk' : Nat → Int32, (∀ j, (j < 3 * m ∨ 3 * m + 3 ≤ j) → rk' j = x_rank j) → (or_app (or_R x_lineClass x_lineLength x_objectClass x_specialiser ar p) p m → (∀ k, k < p → rk' (3 * m + k) = or_R x_lineClass x_lineLength x_objectClass x_specialiser ar p m k) → post 1 (x_classCount, x_superCount, x_objectCount, x_draftSpecialCount, x_state, x_stepCount, x_latestValue, x_enterGeneric, x_enterPlace, x_frameCount, x_operatorCount, x_valueCount, x_lineClass, x_lineLength, x_isSealed, x_classHasSlot, x_classSlot, x_superDraft, x_objectClass, x_objectHasSlot, x_objectSlot, x_parameterCount, x_methodGeneric, x_specialiser, x_tokenKind, x_tokenValue, x_tokenCount, x_argument, rk', x_orderPlace, x_frameMethod, x_framePlace, x_frameToken, x_frameOperators, x_frameArgument, x_operatorKind, x_operatorValue, x_operatorLeft, x_workedOut)) ∧ (¬ or_app (or_R x_lineClass x_lineLength x_objectClass x_specialiser ar p) p m → post 0 (x_classCount, x_superCount, x_objectCount, x_draftSpecialCount, x_state, x_stepCount, x_latestValue, x_enterGeneric, x_enterPlace, x_frameCount, x_operatorCount, x_valueCount, x_lineClass, x_lineLength, x_isSealed, x_classHasSlot, x_classSlot, x_superDraft, x_objectClass, x_objectHasSlot, x_objectSlot, x_parameterCount, x_methodGeneric, x_specialiser, x_tokenKind, x_tokenValue, x_tokenCount, x_argument, rk', x_orderPlace, x_frameMethod, x_framePlace, x_frameToken, x_frameOperators, x_frameArgument, x_operatorKind, x_operatorValue, x_operatorLeft, x_workedOut))) : wpX_rankMethod post (x_classCount, x_superCount, x_objectCount, x_draftSpecialCount, x_state, x_stepCount, x_latestValue, x_enterGeneric, x_enterPlace, x_frameCount, x_operatorCount, x_valueCount, x_lineClass, x_lineLength, x_isSealed, x_classHasSlot, x_classSlot, x_superDraft, x_objectClass, x_objectHasSlot, x_objectSlot, x_parameterCount, x_methodGeneric, x_specialiser, x_tokenKind, x_tokenValue, x_tokenCount, x_argument, x_rank, x_orderPlace, x_frameMethod, x_framePlace, x_frameToken, x_frameOperators, x_frameArgument, x_operatorKind, x_operatorValue, x_operatorLeft, x_workedOut) (nI m) := by
  obtain ⟨hcls, hno, hoc, hg, hp1, hp3, ep, hv⟩ := hW
  unfold wpX_rankMethod
  have em : x_methodGeneric (nI m).toNatClampNeg = nI g := by rw [bs_clk (by omega)]; exact eg
  refine loop_0 (σ := Nat → Int32) (fun n i s => wX_rankMethod_2 post (nI m) x_classCount x_superCount x_objectCount x_draftSpecialCount x_state x_stepCount x_latestValue x_enterGeneric x_enterPlace x_frameCount x_operatorCount x_valueCount n (nI i) x_lineClass x_lineLength x_isSealed x_classHasSlot x_classSlot x_superDraft x_objectClass x_objectHasSlot x_objectSlot x_parameterCount x_methodGeneric x_specialiser x_tokenKind x_tokenValue x_tokenCount x_argument s x_orderPlace x_frameMethod x_framePlace x_frameToken x_frameOperators x_frameArgument x_operatorKind x_operatorValue x_operatorLeft x_workedOut) (fun i s => (∀ j, (j < 3 * m ∨ 3 * m + 3 ≤ j) → s j = x_rank j) ∧ ∀ k, k < i → s (3 * m + k) = or_R x_lineClass x_lineLength x_objectClass x_specialiser ar p m k ∧ ¬ or_R x_lineClass x_lineLength x_objectClass x_specialiser ar p m k = -1) p x_rank ⟨fun _ _ => rfl, lt_0⟩ ?_ ?_
  · intro n s hI
    refine ⟨pk_in m 24 hm, pk_in g 5 hg em, ?_⟩
    rw [em, bs_clk (n := g) (by omega), ep]
    exact br_t (nI_le (Nat.le_refl _) (by omega)) ((hp s hI.1).1 (fun k hk => (hI.2 k hk).2) (fun k hk => (hI.2 k hk).1))
  · intro n i s hi hI k
    refine ⟨pk_in m 24 hm, pk_in g 5 hg em, ?_⟩
    rw [em, bs_clk (n := g) (by omega), ep]
    refine br_f (nI_ge hi (by omega)) (nm_r (bs_xi 3 m i) ⟨pk_in (3 * m + i) 75 (by omega), pk_in i 3 (by omega), ?_⟩)
    rw [bs_clk (n := 3 * m + i) (by omega), bs_clk (n := i) (by omega), ha i hi]
    refine mx_rankOf hcls hno hoc (hv i hi) ?_
    have er : or_R x_lineClass x_lineLength x_objectClass x_specialiser ar p m i = or_nr x_lineClass x_lineLength x_objectClass (x_specialiser (3 * m + i)) (ar i) := or_R_k hi
    rw [← er]
    refine ⟨pk_in (3 * m + i) 75 (by omega), nm_e ⟨pk_in (3 * m + i) 75 (by omega), ?_⟩⟩
    have hf : ∀ j, (j < 3 * m ∨ 3 * m + 3 ≤ j) → upd s (3 * m + i) (or_R x_lineClass x_lineLength x_objectClass x_specialiser ar p m i) j = x_rank j := by
      intro j hj
      rw [pk_un (by omega)]
      exact hI.1 j hj
    rw [pk_us]
    refine br_c (fun e => (hp _ hf).2 (fun z => z i hi e)) (fun e => nm_r (nI_1 i) (k _ ⟨hf, fun j hj => ?_⟩))
    by_cases e2 : j = i
    · rw [e2, pk_us]; exact ⟨rfl, e⟩
    · rw [pk_un (by omega)]; exact hI.2 j (by omega)
theorem my_applicable {post : Int32 → Prop} {nc no g p m fr : Nat} {SP ar : Nat → Int64} (hW : or_W nc no g p y_line y_lineLength y_classOfObject y_parameters ar) (hm : m < 24) (hfr : fr ≤ 24) (eg : y_generic m = nI g) (ha : ∀ k, k < p → y_arguments (fr + k) = ar k) (hs : ∀ k, k < p → rl_sp nc no (SP (3 * m + k)) (y_single (3 * m + k)) (y_special (3 * m + k)))
    (h1 : or_app (or_R y_line y_lineLength y_classOfObject SP ar p) p m → post 1) (h0 : ¬ or_app (or_R y_line y_lineLength y_classOfObject SP ar p) p m → post 0) : wpY_applicable post (y_classes, y_supers, nI no, y_specials, y_depth, y_ops, y_held, y_fault, y_steps, y_shownSteps, y_result, y_line, y_lineLength, y_has, y_sealed, y_initial, y_drafted, y_draftHas, y_draftInitial, y_lists, y_listLength, y_gone, y_classOfObject, y_slots, y_parameters, y_generic, y_single, y_special, y_kind, y_tokens, y_with, y_methodAt, y_pc, y_chosen, y_many, y_reached, y_opsAt, y_broken, y_arguments, y_operands, y_operator, y_got) (nI m) (nI fr) := by
  obtain ⟨hcls, hno, hoc, hg, hp1, hp3, ep, hv⟩ := hW
  unfold wpY_applicable
  have em : y_generic (nI m).toNatClampNeg = nI g := by rw [bs_clk (by omega)]; exact eg
  refine loop_0 (σ := Unit) (fun n i _ => wY_applicable_2 post (nI m) (nI fr) y_classes y_supers (nI no) y_specials y_depth y_ops y_held y_fault y_steps y_shownSteps y_result y_line y_lineLength y_has y_sealed y_initial y_drafted y_draftHas y_draftInitial y_lists y_listLength y_gone y_classOfObject y_slots y_parameters y_generic y_single y_special y_kind y_tokens y_with y_methodAt y_pc y_chosen y_many y_reached y_opsAt y_broken y_arguments y_operands y_operator y_got n (nI i)) (fun i _ => ∀ k, k < i → ¬ or_R y_line y_lineLength y_classOfObject SP ar p m k = -1) p () lt_0 ?_ ?_
  · intro n _ hI
    refine ⟨pk_in m 24 hm, pk_in g 5 hg em, ?_⟩
    rw [em, bs_clk (n := g) (by omega), ep]
    exact br_t (nI_le (Nat.le_refl _) (by omega)) (h1 hI)
  · intro n i _ hi hI k
    refine ⟨pk_in m 24 hm, pk_in g 5 hg em, ?_⟩
    rw [em, bs_clk (n := g) (by omega), ep]
    refine br_f (nI_ge hi (by omega)) ⟨pk_in (fr + i) 27 (by omega) (nI_add fr i), ?_⟩
    rw [nI_add fr i, bs_clk (n := fr + i) (by omega), ha i hi]
    refine my_near hcls hno hoc (hv i hi) hm (by omega) (hs i hi) ?_
    have er : or_R y_line y_lineLength y_classOfObject SP ar p m i = or_nr y_line y_lineLength y_classOfObject (SP (3 * m + i)) (ar i) := or_R_k hi
    have hc := or_ge0 (or_nr_c (sp := SP (3 * m + i)) hcls hno hoc (hv i hi))
    rw [← er] at hc ⊢
    refine br_c (fun z => nm_r (nI_1 i) (k () (lt_s hI (hc.mp z)))) (fun z => h0 (fun w => z (hc.mpr (w i hi))))
theorem mx_precedes {post : Int32 → Prop} {R : Nat → Nat → Int32} {g p m n : Nat} (hg : g < 5) (hp3 : p ≤ 3) (ep : x_parameterCount g = nI p) (hm : m < 24) (hn : n < 24) (eg : x_methodGeneric m = nI g) (rm : ∀ k, k < p → x_rank (3 * m + k) = R m k) (rn : ∀ k, k < p → x_rank (3 * n + k) = R n k) (h1 : (∀ k, k < p → R m k ≤ R n k) → post 1) (h0 : (¬ ∀ k, k < p → R m k ≤ R n k) → post 0) : wpX_precedes post (x_classCount, x_superCount, x_objectCount, x_draftSpecialCount, x_state, x_stepCount, x_latestValue, x_enterGeneric, x_enterPlace, x_frameCount, x_operatorCount, x_valueCount, x_lineClass, x_lineLength, x_isSealed, x_classHasSlot, x_classSlot, x_superDraft, x_objectClass, x_objectHasSlot, x_objectSlot, x_parameterCount, x_methodGeneric, x_specialiser, x_tokenKind, x_tokenValue, x_tokenCount, x_argument, x_rank, x_orderPlace, x_frameMethod, x_framePlace, x_frameToken, x_frameOperators, x_frameArgument, x_operatorKind, x_operatorValue, x_operatorLeft, x_workedOut) (nI m) (nI n) := by
  unfold wpX_precedes
  have em : x_methodGeneric (nI m).toNatClampNeg = nI g := by rw [bs_clk (by omega)]; exact eg
  refine loop_0 (σ := Unit) (fun n' i _ => wX_precedes_2 post (nI m) (nI n) x_classCount x_superCount x_objectCount x_draftSpecialCount x_state x_stepCount x_latestValue x_enterGeneric x_enterPlace x_frameCount x_operatorCount x_valueCount x_lineClass x_lineLength x_isSealed x_classHasSlot x_classSlot x_superDraft x_objectClass x_objectHasSlot x_objectSlot x_parameterCount x_methodGeneric x_specialiser x_tokenKind x_tokenValue x_tokenCount x_argument x_rank x_orderPlace x_frameMethod x_framePlace x_frameToken x_frameOperators x_frameArgument x_operatorKind x_operatorValue x_operatorLeft x_workedOut n' (nI i)) (fun i _ => ∀ k, k < i → R m k ≤ R n k) p () lt_0 ?_ ?_
  · intro n' _ hI
    refine ⟨pk_in m 24 hm, pk_in g 5 hg em, ?_⟩
    rw [em, bs_clk (n := g) (by omega), ep]
    exact br_t (nI_le (Nat.le_refl _) (by omega)) (h1 hI)
  · intro n' i _ hi hI k
    refine ⟨pk_in m 24 hm, pk_in g 5 hg em, ?_⟩
    rw [em, bs_clk (n := g) (by omega), ep]
    refine br_f (nI_ge hi (by omega)) ⟨pk_in (3 * m + i) 75 (by omega) (bs_xi 3 m i), pk_in (3 * n + i) 75 (by omega) (bs_xi 3 n i), ?_⟩
    rw [bs_xi 3 m i, bs_xi 3 n i, bs_clk (n := 3 * m + i) (by omega), bs_clk (n := 3 * n + i) (by omega), rm i hi, rn i hi]
    exact br_c (fun z => nm_r (nI_1 i) (k () (lt_s hI z))) (fun z => h0 (fun w => z (w i hi)))
theorem my_precedes {post : Int32 → Prop} {nc no g p m n fr : Nat} {SP ar : Nat → Int64} (hW : or_W nc no g p y_line y_lineLength y_classOfObject y_parameters ar) (hm : m < 24) (hn : n < 24) (hmn : m ≠ n) (hfr : fr ≤ 24) (eg : y_generic m = nI g) (ha : ∀ k, k < p → y_arguments (fr + k) = ar k) (hs : ∀ k, k < p → rl_sp nc no (SP (3 * m + k)) (y_single (3 * m + k)) (y_special (3 * m + k))) (hs2 : ∀ k, k < p → rl_sp nc no (SP (3 * n + k)) (y_single (3 * n + k)) (y_special (3 * n + k)))
    (h1 : (∀ k, k < p → or_R y_line y_lineLength y_classOfObject SP ar p m k ≤ or_R y_line y_lineLength y_classOfObject SP ar p n k) → post 1) (h0 : (¬ ∀ k, k < p → or_R y_line y_lineLength y_classOfObject SP ar p m k ≤ or_R y_line y_lineLength y_classOfObject SP ar p n k) → post 0) : wpY_precedes post (y_classes, y_supers, nI no, y_specials, y_depth, y_ops, y_held, y_fault, y_steps, y_shownSteps, y_result, y_line, y_lineLength, y_has, y_sealed, y_initial, y_drafted, y_draftHas, y_draftInitial, y_lists, y_listLength, y_gone, y_classOfObject, y_slots, y_parameters, y_generic, y_single, y_special, y_kind, y_tokens, y_with, y_methodAt, y_pc, y_chosen, y_many, y_reached, y_opsAt, y_broken, y_arguments, y_operands, y_operator, y_got) (nI m) (nI n) (nI fr) := by
  obtain ⟨hcls, hno, hoc, hg, hp1, hp3, ep, hv⟩ := hW
  unfold wpY_precedes
  have em : y_generic (nI m).toNatClampNeg = nI g := by rw [bs_clk (by omega)]; exact eg
  refine loop_0 (σ := Unit) (fun n' i _ => wY_precedes_3 post (nI m) (nI n) (nI fr) y_classes y_supers (nI no) y_specials y_depth y_ops y_held y_fault y_steps y_shownSteps y_result y_line y_lineLength y_has y_sealed y_initial y_drafted y_draftHas y_draftInitial y_lists y_listLength y_gone y_classOfObject y_slots y_parameters y_generic y_single y_special y_kind y_tokens y_with y_methodAt y_pc y_chosen y_many y_reached y_opsAt y_broken y_arguments y_operands y_operator y_got n' (nI i)) (fun i _ => ∀ k, k < i → or_R y_line y_lineLength y_classOfObject SP ar p m k ≤ or_R y_line y_lineLength y_classOfObject SP ar p n k) p () lt_0 ?_ ?_
  · intro n' _ hI
    refine ⟨pk_in m 24 hm, pk_in g 5 hg em, ?_⟩
    rw [em, bs_clk (n := g) (by omega), ep]
    exact br_t (nI_le (Nat.le_refl _) (by omega)) (pk_eq m n (fun e => absurd e hmn) (fun _ => h1 hI))
  · intro n' i _ hi hI k
    refine ⟨pk_in m 24 hm, pk_in g 5 hg em, ?_⟩
    rw [em, bs_clk (n := g) (by omega), ep]
    refine br_f (nI_ge hi (by omega)) ⟨pk_in (fr + i) 27 (by omega) (nI_add fr i), ?_⟩
    rw [nI_add fr i, bs_clk (n := fr + i) (by omega), ha i hi]
    refine my_near hcls hno hoc (hv i hi) hm (by omega) (hs i hi) ⟨pk_in (fr + i) 27 (by omega), ?_⟩
    refine my_near hcls hno hoc (hv i hi) hn (by omega) (hs2 i hi) ?_
    rw [← or_R_k (m := m) (SP := SP) (ar := ar) hi, ← or_R_k (m := n) (SP := SP) (ar := ar) hi]
    exact br_c (fun z => nm_r (nI_1 i) (k () (lt_s hI z))) (fun z => h0 (fun w => z (w i hi)))
theorem mx_precedesAll {post : Int32 → Prop} {R : Nat → Nat → Int32} {g p m : Nat} {L : Int32} (hg : g < 5) (hp3 : p ≤ 3) (ep : x_parameterCount g = nI p) (hm : m < 24) (hb : or_bit L m) (hF : ∀ m, m < 24 → or_bit L m → x_methodGeneric m = nI g ∧ ∀ k, k < p → x_rank (3 * m + k) = R m k) (h1 : or_good R p L m → post 1) (h0 : ¬ or_good R p L m → post 0) : wpX_precedesAll post (x_classCount, x_superCount, x_objectCount, x_draftSpecialCount, x_state, x_stepCount, x_latestValue, x_enterGeneric, x_enterPlace, x_frameCount, x_operatorCount, x_valueCount, x_lineClass, x_lineLength, x_isSealed, x_classHasSlot, x_classSlot, x_superDraft, x_objectClass, x_objectHasSlot, x_objectSlot, x_parameterCount, x_methodGeneric, x_specialiser, x_tokenKind, x_tokenValue, x_tokenCount, x_argument, x_rank, x_orderPlace, x_frameMethod, x_framePlace, x_frameToken, x_frameOperators, x_frameArgument, x_operatorKind, x_operatorValue, x_operatorLeft, x_workedOut) (nI m) L := by
  unfold wpX_precedesAll
  refine loop_0 (σ := Unit) (fun n' i _ => wX_precedesAll_2 post (nI m) L x_classCount x_superCount x_objectCount x_draftSpecialCount x_state x_stepCount x_latestValue x_enterGeneric x_enterPlace x_frameCount x_operatorCount x_valueCount x_lineClass x_lineLength x_isSealed x_classHasSlot x_classSlot x_superDraft x_objectClass x_objectHasSlot x_objectSlot x_parameterCount x_methodGeneric x_specialiser x_tokenKind x_tokenValue x_tokenCount x_argument x_rank x_orderPlace x_frameMethod x_framePlace x_frameToken x_frameOperators x_frameArgument x_operatorKind x_operatorValue x_operatorLeft x_workedOut n' (nI i)) (fun i _ => ∀ n, n < i → n ≠ m → or_bit L n → ∀ k, k < p → R m k ≤ R n k) 24 () lt_0 ?_ ?_
  · intro n' _ hI
    exact br_t (nI_le (Nat.le_refl _) (by omega)) (h1 ⟨hb, hI⟩)
  · intro n' i _ hi hI k
    refine br_f (nI_ge (b := 24) hi (by omega)) (pk_eq i m (fun e => nm_r (nI_1 i) (k () (lt_s hI (fun z => absurd e z)))) (fun ne => ?_))
    refine br_c (fun hbi => ?_) (fun nb => nm_r (nI_1 i) (k () (lt_s hI (fun _ z => absurd z nb))))
    refine mx_precedes (R := R) hg hp3 ep hm hi (hF m hm hb).1 (hF m hm hb).2 (hF i hi hbi).2 (fun h => br_f (by decide) (nm_r (nI_1 i) (k () (lt_s hI (fun _ _ => h))))) (fun h => br_t rfl (h0 (fun w => h (w.2 i hi ne hbi))))
theorem mx_leader {post : Int32 → Prop} {R : Nat → Nat → Int32} {g p : Nat} {L : Int32} (hg : g < 5) (hp3 : p ≤ 3) (ep : x_parameterCount g = nI p) (hF : ∀ m, m < 24 → or_bit L m → x_methodGeneric m = nI g ∧ ∀ k, k < p → x_rank (3 * m + k) = R m k) (hp : post (or_ox R p L)) : wpX_leader post (x_classCount, x_superCount, x_objectCount, x_draftSpecialCount, x_state, x_stepCount, x_latestValue, x_enterGeneric, x_enterPlace, x_frameCount, x_operatorCount, x_valueCount, x_lineClass, x_lineLength, x_isSealed, x_classHasSlot, x_classSlot, x_superDraft, x_objectClass, x_objectHasSlot, x_objectSlot, x_parameterCount, x_methodGeneric, x_specialiser, x_tokenKind, x_tokenValue, x_tokenCount, x_argument, x_rank, x_orderPlace, x_frameMethod, x_framePlace, x_frameToken, x_frameOperators, x_frameArgument, x_operatorKind, x_operatorValue, x_operatorLeft, x_workedOut) L := by
  unfold wpX_leader
  refine loop_0 (σ := Unit) (fun n' i _ => wX_leader_2 post L x_classCount x_superCount x_objectCount x_draftSpecialCount x_state x_stepCount x_latestValue x_enterGeneric x_enterPlace x_frameCount x_operatorCount x_valueCount x_lineClass x_lineLength x_isSealed x_classHasSlot x_classSlot x_superDraft x_objectClass x_objectHasSlot x_objectSlot x_parameterCount x_methodGeneric x_specialiser x_tokenKind x_tokenValue x_tokenCount x_argument x_rank x_orderPlace x_frameMethod x_framePlace x_frameToken x_frameOperators x_frameArgument x_operatorKind x_operatorValue x_operatorLeft x_workedOut n' (nI i)) (fun i _ => ∀ n, n < i → ¬ or_good R p L n) 24 () lt_0 ?_ ?_
  · intro n' _ hI
    refine br_t (nI_le (Nat.le_refl _) (by omega)) ?_
    have e : or_ld R p L = 24 := bs_fi_no hI
    unfold or_ox at hp
    rw [e, bs_cf (Nat.lt_irrefl _)] at hp
    refine br_c (fun z => ?_) (fun z => ?_)
    · rw [bs_ct z] at hp; exact hp
    · rw [bs_cf z] at hp; exact hp
  · intro n' i _ hi hI k
    refine br_f (nI_ge (b := 24) hi (by omega)) (br_c (fun hb => ?_) (fun nb => nm_r (nI_1 i) (k () (lt_s hI (fun z => nb z.1)))))
    refine mx_precedesAll hg hp3 ep hi hb hF (fun h => br_f (by decide) ?_) (fun h => br_t rfl (nm_r (nI_1 i) (k () (lt_s hI h))))
    have e : or_ld R p L = i := bs_fi_at hi h hI
    unfold or_ox at hp
    rw [e, bs_ct hi] at hp
    exact hp
theorem my_leader {post : Int32 → Prop} {nc no g p fr : Nat} {SP ar : Nat → Int64} {L : Int32} (hW : or_W nc no g p y_line y_lineLength y_classOfObject y_parameters ar) (hfr : fr ≤ 24) (ha : ∀ k, k < p → y_arguments (fr + k) = ar k) (hF : ∀ m, m < 24 → or_bit L m → y_generic m = nI g ∧ ∀ k, k < p → rl_sp nc no (SP (3 * m + k)) (y_single (3 * m + k)) (y_special (3 * m + k)))
    (hp : post (bs_ci (or_ld (or_R y_line y_lineLength y_classOfObject SP ar p) p L < 24) (nI (or_ld (or_R y_line y_lineLength y_classOfObject SP ar p) p L)) (-1))) : wpY_leader post (y_classes, y_supers, nI no, y_specials, y_depth, y_ops, y_held, y_fault, y_steps, y_shownSteps, y_result, y_line, y_lineLength, y_has, y_sealed, y_initial, y_drafted, y_draftHas, y_draftInitial, y_lists, y_listLength, y_gone, y_classOfObject, y_slots, y_parameters, y_generic, y_single, y_special, y_kind, y_tokens, y_with, y_methodAt, y_pc, y_chosen, y_many, y_reached, y_opsAt, y_broken, y_arguments, y_operands, y_operator, y_got) L (nI fr) := by
  unfold wpY_leader
  refine loop_0 (σ := Unit) (fun n' i _ => wY_leader_2 post L (nI fr) y_classes y_supers (nI no) y_specials y_depth y_ops y_held y_fault y_steps y_shownSteps y_result y_line y_lineLength y_has y_sealed y_initial y_drafted y_draftHas y_draftInitial y_lists y_listLength y_gone y_classOfObject y_slots y_parameters y_generic y_single y_special y_kind y_tokens y_with y_methodAt y_pc y_chosen y_many y_reached y_opsAt y_broken y_arguments y_operands y_operator y_got n' (nI i)) (fun i _ => ∀ n, n < i → ¬ or_good (or_R y_line y_lineLength y_classOfObject SP ar p) p L n) 24 () lt_0 ?_ ?_
  · intro n' _ hI
    refine br_t (nI_le (Nat.le_refl _) (by omega)) ?_
    have e : or_ld (or_R y_line y_lineLength y_classOfObject SP ar p) p L = 24 := bs_fi_no hI
    rw [e, bs_cf (Nat.lt_irrefl _)] at hp
    exact hp
  · intro n' m _ hm hI k
    refine br_f (nI_ge (b := 24) hm (by omega)) (br_c (fun nb => ?_) (fun hb => ?_))
    · have nb' := or_bit_n.mpr nb
      exact ⟨1, br_f (nI_ge (a := 0) (b := 24) (by omega) (by omega)) (br_t rfl (br_t rfl (nm_r (nI_1 m) (k () (lt_s hI (fun z => nb' z.1))))))⟩
    · have hb' : or_bit L m := Classical.not_not.mp (fun z => hb (or_bit_n.mp z))
      refine loop_0 (σ := Int32) (fun n2 i s => wY_leader_26 post (wY_leader_2 post L (nI fr) y_classes y_supers (nI no) y_specials y_depth y_ops y_held y_fault y_steps y_shownSteps y_result y_line y_lineLength y_has y_sealed y_initial y_drafted y_draftHas y_draftInitial y_lists y_listLength y_gone y_classOfObject y_slots y_parameters y_generic y_single y_special y_kind y_tokens y_with y_methodAt y_pc y_chosen y_many y_reached y_opsAt y_broken y_arguments y_operands y_operator y_got n') L (nI fr) (nI m) y_classes y_supers (nI no) y_specials y_depth y_ops y_held y_fault y_steps y_shownSteps y_result y_line y_lineLength y_has y_sealed y_initial y_drafted y_draftHas y_draftInitial y_lists y_listLength y_gone y_classOfObject y_slots y_parameters y_generic y_single y_special y_kind y_tokens y_with y_methodAt y_pc y_chosen y_many y_reached y_opsAt y_broken y_arguments y_operands y_operator y_got n2 s (nI i)) (fun i s => (s = 1 ∧ ∀ n, n < i → n ≠ m → or_bit L n → ∀ k, k < p → or_R y_line y_lineLength y_classOfObject SP ar p m k ≤ or_R y_line y_lineLength y_classOfObject SP ar p n k) ∨ (s = 0 ∧ ¬ or_good (or_R y_line y_lineLength y_classOfObject SP ar p) p L m)) 24 1 (Or.inl ⟨rfl, lt_0⟩) ?_ ?_
      · intro n2 s hJ
        refine br_t (nI_le (Nat.le_refl _) (by omega)) ?_
        rcases hJ with ⟨rfl, h⟩ | ⟨rfl, h⟩
        · have e : or_ld (or_R y_line y_lineLength y_classOfObject SP ar p) p L = m := bs_fi_at hm ⟨hb', h⟩ hI
          rw [e, bs_ct hm] at hp
          exact br_f (by decide) hp
        · exact br_t rfl (nm_r (nI_1 m) (k () (lt_s hI h)))
      · intro n2 i s hi hJ k2
        refine br_f (nI_ge (b := 24) hi (by omega)) ?_
        rcases hJ with ⟨rfl, h⟩ | ⟨rfl, h⟩
        · refine br_f (by decide) (pk_eq i m (fun e => nm_r (nI_1 i) (k2 1 (Or.inl ⟨rfl, lt_s h (fun z => absurd e z)⟩))) (fun ne => ?_))
          refine br_c (fun nb => nm_r (nI_1 i) (k2 1 (Or.inl ⟨rfl, lt_s h (fun _ z => absurd z (or_bit_n.mpr nb))⟩))) (fun nb => ?_)
          have hbi : or_bit L i := Classical.not_not.mp (fun z => nb (or_bit_n.mp z))
          exact my_precedes hW hm hi (fun z => ne z.symm) hfr (hF m hm hb').1 ha (hF m hm hb').2 (hF i hi hbi).2 (fun hz => br_f (by decide) (nm_r (nI_1 i) (k2 1 (Or.inl ⟨rfl, lt_s h (fun _ _ => hz)⟩)))) (fun hz => br_t rfl (nm_r (nI_1 i) (k2 0 (Or.inr ⟨rfl, fun w => hz (w.2 i hi ne hbi)⟩))))
        · exact br_t rfl (br_t rfl (nm_r (nI_1 m) (k () (lt_s hI h))))
end
end
section
/-! findOrder, sort, order -/
def or_P (MG : Nat → Int32) (R : Nat → Nat → Int32) (g p m : Nat) : Prop := MG m = nI g ∧ or_app R p m
/-- the bit set of the applicable methods -/
noncomputable def or_L (MG : Nat → Int32) (R : Nat → Nat → Int32) (g p : Nat) : Int32 := or_ap (or_P MG R g p) 24
def or_S (R : Nat → Nat → Int32) (p : Nat) (L : Int32) (lv : Nat) (ch mn bk ch' mn' bk' : Nat → Int32) : Prop := mn' lv = nI (or_mn R p L) ∧ bk' lv = bs_ci (or_sq R p L (or_mn R p L) = 0) 0 1 ∧ (∀ j, j < or_mn R p L → ch' (24 * lv + j) = nI (or_ld R p (or_sq R p L j))) ∧ (∀ f, f ≠ lv → mn' f = mn f ∧ bk' f = bk f) ∧ (∀ j, (j < 24 * lv ∨ 24 * lv + 24 ≤ j) → ch' j = ch j)
theorem or_LF {MG : Nat → Int32} {R : Nat → Nat → Int32} {g p q m : Nat} (hm : m < 24) (h : or_bit (or_sq R p (or_L MG R g p) q) m) : or_P MG R g p m :=
  ((or_ap_b 24 (by omega) m (by omega)).mp (or_sq_sub q m hm h)).2
section
variable {x_classCount : Int32} {x_superCount : Int32} {x_objectCount : Int32} {x_draftSpecialCount : Int32} {x_state : Int32} {x_stepCount : Int32} {x_latestValue : Int64} {x_enterGeneric : Int32} {x_enterPlace : Int32} {x_frameCount : Int32} {x_operatorCount : Int32} {x_valueCount : Int32} {x_lineClass : Nat → Int32} {x_lineLength : Nat → Int32} {x_isSealed : Nat → Int32} {x_classHasSlot : Nat → Int32} {x_classSlot : Nat → Int32} {x_superDraft : Nat → Int32} {x_objectClass : Nat → Int32} {x_objectHasSlot : Nat → Int32} {x_objectSlot : Nat → Int64} {x_parameterCount : Nat → Int32} {x_methodGeneric : Nat → Int32} {x_specialiser : Nat → Int64} {x_tokenKind : Nat → Int32} {x_tokenValue : Nat → Int32} {x_tokenCount : Nat → Int32} {x_argument : Nat → Int64} {x_rank : Nat → Int32} {x_orderPlace : Nat → Int32} {x_frameMethod : Nat → Int32} {x_framePlace : Nat → Int32} {x_frameToken : Nat → Int32} {x_frameOperators : Nat → Int32} {x_frameArgument : Nat → Int64} {x_operatorKind : Nat → Int32} {x_operatorValue : Nat → Int32} {x_operatorLeft : Nat → Int32} {x_workedOut : Nat → Int64} {y_classes : Int32} {y_supers : Int32} {y_objects : Int32} {y_specials : Int32} {y_depth : Int32} {y_ops : Int32} {y_held : Int32} {y_fault : Int32} {y_steps : Int32} {y_shownSteps : Int32} {y_result : Int64} {y_line : Nat → Int32} {y_lineLength : Nat → Int32} {y_has : Nat → Int32} {y_sealed : Nat → Int32} {y_initial : Nat → Int32} {y_drafted : Nat → Int32} {y_draftHas : Nat → Int32} {y_draftInitial : Nat → Int32} {y_lists : Nat → Int32} {y_listLength : Nat → Int32} {y_gone : Nat → Int32} {y_classOfObject : Nat → Int32} {y_slots : Nat → Int64} {y_parameters : Nat → Int32} {y_generic : Nat → Int32} {y_single : Nat → Int32} {y_special : Nat → Int64} {y_kind : Nat → Int32} {y_tokens : Nat → Int32} {y_with : Nat → Int32} {y_methodAt : Nat → Int32} {y_pc : Nat → Int32} {y_chosen : Nat → Int32} {y_many : Nat → Int32} {y_reached : Nat → Int32} {y_opsAt : Nat → Int32} {y_broken : Nat → Int32} {y_arguments : Nat → Int64} {y_operands : Nat → Int64} {y_operator : Nat → Int32} {y_got : Nat → Int32}
theorem mx_fo42 {post : SX → Prop} {R : Nat → Nat → Int32} {g p : Nat} {L : Int32} (hg : g < 5) (hp3 : p ≤ 3) (ep : x_parameterCount g = nI p) (hF : ∀ q m, m < 24 → or_bit (or_sq R p L q) m → x_methodGeneric m = nI g ∧ ∀ k, k < p → x_rank (3 * m + k) = R m k) (hp : ∀ op' : Nat → Int32, (∀ q, q < 25 → op' q = or_ox R p (or_sq R p L q)) → post (x_classCount, x_superCount, x_objectCount, x_draftSpecialCount, x_state, x_stepCount, x_latestValue, x_enterGeneric, x_enterPlace, x_frameCount, x_operatorCount, x_valueCount, x_lineClass, x_lineLength, x_isSealed, x_classHasSlot, x_classSlot, x_superDraft, x_objectClass, x_objectHasSlot, x_objectSlot, x_parameterCount, x_methodGeneric, x_specialiser, x_tokenKind, x_tokenValue, x_tokenCount, x_argument, x_rank, op', x_frameMethod, x_framePlace, x_frameToken, x_frameOperators, x_frameArgument, x_operatorKind, x_operatorValue, x_operatorLeft, x_workedOut)) : ∃ n, wX_findOrder_42 post x_classCount x_superCount x_objectCount x_draftSpecialCount x_state x_stepCount x_latestValue x_enterGeneric x_enterPlace x_frameCount x_operatorCount x_valueCount n L 0 x_lineClass x_lineLength x_isSealed x_classHasSlot x_classSlot x_superDraft x_objectClass x_objectHasSlot x_objectSlot x_parameterCount x_methodGeneric x_specialiser x_tokenKind x_tokenValue x_tokenCount x_argument x_rank x_orderPlace x_frameMethod x_framePlace x_frameToken x_frameOperators x_frameArgument x_operatorKind x_operatorValue x_operatorLeft x_workedOut := by
  refine loop_0 (σ := Int32 × (Nat → Int32)) (fun n i s => wX_findOrder_42 post x_classCount x_superCount x_objectCount x_draftSpecialCount x_state x_stepCount x_latestValue x_enterGeneric x_enterPlace x_frameCount x_operatorCount x_valueCount n s.1 (nI i) x_lineClass x_lineLength x_isSealed x_classHasSlot x_classSlot x_superDraft x_objectClass x_objectHasSlot x_objectSlot x_parameterCount x_methodGeneric x_specialiser x_tokenKind x_tokenValue x_tokenCount x_argument x_rank s.2 x_frameMethod x_framePlace x_frameToken x_frameOperators x_frameArgument x_operatorKind x_operatorValue x_operatorLeft x_workedOut) (fun i s => s.1 = or_sq R p L i ∧ ∀ j, j < i → s.2 j = or_ox R p (or_sq R p L j)) 25 (L, x_orderPlace) ⟨rfl, lt_0⟩ ?_ ?_
  · intro n s hI
    exact br_t (nI_le (Nat.le_refl _) (by omega)) (hp s.2 hI.2)
  · rintro n i ⟨s1, s2⟩ hi ⟨e1, hI⟩ k
    dsimp only at e1 hI
    subst e1
    refine br_f (nI_ge (b := 25) hi (by omega)) ?_
    refine mx_leader (R := R) hg hp3 ep (hF i) ⟨pk_in i 25 hi, nm_r (e' := upd s2 i (or_ox R p (or_sq R p L i))) (by rw [bs_clk (by omega)]) ?_⟩
    have hI2 : ∀ j, j < i + 1 → upd s2 i (or_ox R p (or_sq R p L i)) j = or_ox R p (or_sq R p L j) := by
      intro j hj
      by_cases e : j = i
      · rw [e, pk_us]
      · rw [pk_un e]; exact hI j (by omega)
    by_cases hl : or_ld R p (or_sq R p L i) < 24
    · have eo : or_ox R p (or_sq R p L i) = nI (or_ld R p (or_sq R p L i)) := bs_ct hl
      refine br_f (by rw [eo]; exact nI_pos (by omega)) (nm_r (e' := or_sq R p L (i + 1)) (by rw [eo]; exact or_sq_t hl) (nm_r (nI_1 i) (k (or_sq R p L (i + 1), upd s2 i (or_ox R p (or_sq R p L i))) ⟨rfl, hI2⟩)))
    · have eo : or_ox R p (or_sq R p L i) < 0 := by
        have e : or_ox R p (or_sq R p L i) = bs_ci (or_sq R p L i = 0) (-1) (-2) := bs_cf hl
        rw [e]
        by_cases z : or_sq R p L i = 0
        · rw [bs_ct z]; decide
        · rw [bs_cf z]; decide
      exact br_t eo (nm_r (nI_1 i) (k (or_sq R p L i, upd s2 i (or_ox R p (or_sq R p L i))) ⟨or_sq_f hl, hI2⟩))
theorem mx_findOrder {post : SX → Prop} {nc no g p : Nat} {ar : Nat → Int64} (hW : or_W nc no g p x_lineClass x_lineLength x_objectClass x_parameterCount ar) (ha : ∀ k, k < p → x_argument k = ar k)
    (hp : ∀ rk' op' : Nat → Int32, (∀ q, q < 25 → op' q = or_ox (or_R x_lineClass x_lineLength x_objectClass x_specialiser ar p) p (or_sq (or_R x_lineClass x_lineLength x_objectClass x_specialiser ar p) p (or_L x_methodGeneric (or_R x_lineClass x_lineLength x_objectClass x_specialiser ar p) g p) q)) → post (x_classCount, x_superCount, x_objectCount, x_draftSpecialCount, x_state, x_stepCount, x_latestValue, x_enterGeneric, x_enterPlace, x_frameCount, x_operatorCount, x_valueCount, x_lineClass, x_lineLength, x_isSealed, x_classHasSlot, x_classSlot, x_superDraft, x_objectClass, x_objectHasSlot, x_objectSlot, x_parameterCount, x_methodGeneric, x_specialiser, x_tokenKind, x_tokenValue, x_tokenCount, x_argument, rk', op', x_frameMethod, x_framePlace, x_frameToken, x_frameOperators, x_frameArgument, x_operatorKind, x_operatorValue, x_operatorLeft, x_workedOut)) : wpX_findOrder post (x_classCount, x_superCount, x_objectCount, x_draftSpecialCount, x_state, x_stepCount, x_latestValue, x_enterGeneric, x_enterPlace, x_frameCount, x_operatorCount, x_valueCount, x_lineClass, x_lineLength, x_isSealed, x_classHasSlot, x_classSlot, x_superDraft, x_objectClass, x_objectHasSlot, x_objectSlot, x_parameterCount, x_methodGeneric, x_specialiser, x_tokenKind, x_tokenValue, x_tokenCount, x_argument, x_rank, x_orderPlace, x_frameMethod, x_framePlace, x_frameToken, x_frameOperators, x_frameArgument, x_operatorKind, x_operatorValue, x_operatorLeft, x_workedOut) (nI g) := by
  have hg := hW.2.2.2.1
  have hp3 := hW.2.2.2.2.2.1
  have ep := hW.2.2.2.2.2.2.1
  unfold wpX_findOrder
  refine loop_0 (σ := Int32 × (Nat → Int32)) (fun n i s => wX_findOrder_4 post (nI g) n s.1 (nI i) x_classCount x_superCount x_objectCount x_draftSpecialCount x_state x_stepCount x_latestValue x_enterGeneric x_enterPlace x_frameCount x_operatorCount x_valueCount x_lineClass x_lineLength x_isSealed x_classHasSlot x_classSlot x_superDraft x_objectClass x_objectHasSlot x_objectSlot x_parameterCount x_methodGeneric x_specialiser x_tokenKind x_tokenValue x_tokenCount x_argument s.2 x_orderPlace x_frameMethod x_framePlace x_frameToken x_frameOperators x_frameArgument x_operatorKind x_operatorValue x_operatorLeft x_workedOut) (fun i s => s.1 = or_ap (or_P x_methodGeneric (or_R x_lineClass x_lineLength x_objectClass x_specialiser ar p) g p) i ∧ ∀ m, m < i → or_P x_methodGeneric (or_R x_lineClass x_lineLength x_objectClass x_specialiser ar p) g p m → ∀ k, k < p → s.2 (3 * m + k) = or_R x_lineClass x_lineLength x_objectClass x_specialiser ar p m k) 24 (0, x_rank) ⟨rfl, lt_0⟩ ?_ ?_
  · rintro n ⟨s1, s2⟩ ⟨e1, hI⟩
    dsimp only at e1 hI
    subst e1
    refine br_t (nI_le (Nat.le_refl _) (by omega)) ?_
    refine mx_fo42 (R := or_R x_lineClass x_lineLength x_objectClass x_specialiser ar p) hg hp3 ep (fun q m hm hb => ?_) (fun op' ho => hp s2 op' ho)
    have hP := or_LF hm hb
    exact ⟨hP.1, hI m hm hP⟩
  · rintro n i ⟨s1, s2⟩ hi ⟨e1, hI⟩ k
    dsimp only at e1 hI
    subst e1
    refine br_f (nI_ge (b := 24) hi (by omega)) ⟨pk_in i 24 hi, ?_⟩
    rw [bs_clk (n := i) (by omega)]
    refine br_c (fun eg => ?_) (fun ng => nm_r (nI_1 i) (k (or_ap (or_P x_methodGeneric (or_R x_lineClass x_lineLength x_objectClass x_specialiser ar p) g p) i, s2) ⟨or_ap_f (fun z => ng z.1), lt_s hI (fun z => absurd z.1 ng)⟩))
    refine mx_rankMethod hW hi eg ha (fun rk' hf => ⟨fun happ hr => ?_, fun hn => ?_⟩)
    · refine br_f (by decide) (nm_r (e' := or_ap (or_P x_methodGeneric (or_R x_lineClass x_lineLength x_objectClass x_specialiser ar p) g p) (i + 1)) (or_ap_t ⟨eg, happ⟩) (nm_r (nI_1 i) (k (or_ap (or_P x_methodGeneric (or_R x_lineClass x_lineLength x_objectClass x_specialiser ar p) g p) (i + 1), rk') ⟨rfl, fun m hm hP j hj => ?_⟩)))
      dsimp only
      by_cases e : m = i
      · rw [e]; exact hr j hj
      · rw [hf _ (by omega)]; exact hI m (by omega) hP j hj
    · refine br_t rfl (nm_r (nI_1 i) (k (or_ap (or_P x_methodGeneric (or_R x_lineClass x_lineLength x_objectClass x_specialiser ar p) g p) i, rk') ⟨or_ap_f (fun z => hn z.2), fun m hm hP j hj => ?_⟩))
      dsimp only
      by_cases e : m = i
      · rw [e] at hP; exact absurd hP.2 hn
      · rw [hf _ (by omega)]; exact hI m (by omega) hP j hj
theorem my_so62 {post : SY → Prop} {nc no g p lv : Nat} {SP ar : Nat → Int64} {L : Int32} {R : Nat → Nat → Int32} (eR : R = or_R y_line y_lineLength y_classOfObject SP ar p) (hW : or_W nc no g p y_line y_lineLength y_classOfObject y_parameters ar) (hlv : lv < 8) (ha : ∀ k, k < p → y_arguments (3 * lv + k) = ar k) (hF : ∀ q m, m < 24 → or_bit (or_sq R p L q) m → y_generic m = nI g ∧ ∀ k, k < p → rl_sp nc no (SP (3 * m + k)) (y_single (3 * m + k)) (y_special (3 * m + k)))
    (hp : ∀ ch' mn' bk' : Nat → Int32, or_S R p L lv y_chosen y_many y_broken ch' mn' bk' → post (y_classes, y_supers, nI no, y_specials, y_depth, y_ops, y_held, y_fault, y_steps, y_shownSteps, y_result, y_line, y_lineLength, y_has, y_sealed, y_initial, y_drafted, y_draftHas, y_draftInitial, y_lists, y_listLength, y_gone, y_classOfObject, y_slots, y_parameters, y_generic, y_single, y_special, y_kind, y_tokens, y_with, y_methodAt, y_pc, ch', mn', y_reached, y_opsAt, bk', y_arguments, y_operands, y_operator, y_got)) : ∀ (d q : Nat) (ch mn bk : Nat → Int32), q + d = or_mn R p L → mn lv = nI q → bk lv = 0 → (∀ j, j < q → ch (24 * lv + j) = nI (or_ld R p (or_sq R p L j))) → (∀ f, f ≠ lv → mn f = y_many f ∧ bk f = y_broken f) → (∀ j, (j < 24 * lv ∨ 24 * lv + 24 ≤ j) → ch j = y_chosen j) → wY_sort_62 post (nI lv) y_classes y_supers (nI no) y_specials y_depth y_ops y_held y_fault y_steps y_shownSteps y_result (d + 2) (or_sq R p L q) y_line y_lineLength y_has y_sealed y_initial y_drafted y_draftHas y_draftInitial y_lists y_listLength y_gone y_classOfObject y_slots y_parameters y_generic y_single y_special y_kind y_tokens y_with y_methodAt y_pc ch mn y_reached y_opsAt bk y_arguments y_operands y_operator y_got := by
  have hle := or_mn_le R p L
  intro d
  induction d with
  | zero =>
    intro q ch mn bk hq hmn hbk hch hf hc
    have eq : q = or_mn R p L := by omega
    have hno := or_mn_no (R := R) (p := p) (L := L)
    rw [← eq] at hno
    refine br_c (fun z => ?_) (fun z => ⟨pk_in lv 8 hlv, ?_⟩)
    · refine hp ch mn bk ⟨by rw [hmn, eq], ?_, fun j hj => hch j (by omega), hf, hc⟩
      rw [← eq, bs_ct z, hbk]
    · rw [bs_clk (n := lv) (by omega)]
      refine br_t hbk ?_
      rw [bs_ml 3 lv]
      refine my_leader (SP := SP) hW (by omega) ha (hF q) ?_
      rw [← eR, bs_cf hno]
      refine br_f (by decide) ⟨pk_in lv 8 hlv, nm_r (e' := upd bk lv 1) (by rw [bs_clk (by omega), bs_z1]) (br_f (by decide) ?_)⟩
      refine br_f z ⟨pk_in lv 8 hlv, br_f (by rw [bs_clk (n := lv) (by omega), pk_us]; decide) ?_⟩
      refine hp ch mn (upd bk lv 1) ⟨by rw [hmn, eq], ?_, fun j hj => hch j (by omega), fun f hfl => ⟨(hf f hfl).1, by rw [pk_un hfl]; exact (hf f hfl).2⟩, hc⟩
      rw [← eq, bs_cf z, pk_us]
  | succ d ih =>
    intro q ch mn bk hq hmn hbk hch hf hc
    have hl := or_mn_lt (R := R) (p := p) (L := L) (q := q) (by omega)
    have hg := bs_fi_p (p := or_good R p (or_sq R p L q)) hl
    have hz : ¬ or_sq R p L q = 0 := by
      intro z
      have h1 := hg.1
      rw [z] at h1
      exact or_bit0 (m := or_ld R p 0) (by rw [z] at hl; omega) h1
    refine br_f hz ⟨pk_in lv 8 hlv, ?_⟩
    rw [bs_clk (n := lv) (by omega)]
    refine br_t hbk ?_
    rw [bs_ml 3 lv]
    refine my_leader (SP := SP) hW (by omega) ha (hF q) ?_
    rw [← eR, bs_ct hl]
    refine br_t (bs_ge0 (by omega)) ⟨pk_in lv 8 hlv, nm_r (e' := upd bk lv 0) (by rw [bs_clk (by omega), bs_z0]) (br_t (bs_ge0 (by omega)) ⟨pk_in lv 8 hlv, pk_in lv 8 hlv, nm_r (e' := upd mn lv (nI (q + 1))) ?_ ⟨?_, nm_r (e' := upd ch (24 * lv + q) (nI (or_ld R p (or_sq R p L q)))) ?_ (nm_r (e' := or_sq R p L (q + 1)) (or_sq_t hl) ?_)⟩⟩)⟩
    · rw [bs_clk (by omega), hmn, nI_1, bs_vb8 (by omega)]
    · rw [bs_clk (n := lv) (by omega), hmn]
      exact pk_in (24 * lv + q) 192 (by omega) (bs_ix 24 lv q)
    · rw [bs_clk (n := lv) (by omega), hmn, bs_ix 24 lv q, bs_clk (by omega), bs_vb8 (by omega)]
    · refine ih (q + 1) _ _ _ (by omega) pk_us pk_us (fun j hj => ?_) (fun f hfl => ?_) (fun j hj => ?_)
      · by_cases e : j = q
        · rw [e, pk_us]
        · rw [pk_un (by omega)]; exact hch j (by omega)
      · rw [pk_un hfl, pk_un hfl]; exact hf f hfl
      · rw [pk_un (by omega)]; exact hc j hj
theorem my_sort {post : SY → Prop} {nc no g p lv : Nat} {SP ar : Nat → Int64} {R : Nat → Nat → Int32} (eR : R = or_R y_line y_lineLength y_classOfObject SP ar p) (hW : or_W nc no g p y_line y_lineLength y_classOfObject y_parameters ar) (hlv : lv < 8) (ha : ∀ k, k < p → y_arguments (3 * lv + k) = ar k) (hs : ∀ m, m < 24 → y_generic m = nI g → ∀ k, k < p → rl_sp nc no (SP (3 * m + k)) (y_single (3 * m + k)) (y_special (3 * m + k)))
    (hp : ∀ ch' mn' bk' : Nat → Int32, or_S R p (or_L y_generic R g p) lv y_chosen y_many y_broken ch' mn' bk' → post (y_classes, y_supers, nI no, y_specials, y_depth, y_ops, y_held, y_fault, y_steps, y_shownSteps, y_result, y_line, y_lineLength, y_has, y_sealed, y_initial, y_drafted, y_draftHas, y_draftInitial, y_lists, y_listLength, y_gone, y_classOfObject, y_slots, y_parameters, y_generic, y_single, y_special, y_kind, y_tokens, y_with, y_methodAt, y_pc, ch', mn', y_reached, y_opsAt, bk', y_arguments, y_operands, y_operator, y_got)) : wpY_sort post (y_classes, y_supers, nI no, y_specials, y_depth, y_ops, y_held, y_fault, y_steps, y_shownSteps, y_result, y_line, y_lineLength, y_has, y_sealed, y_initial, y_drafted, y_draftHas, y_draftInitial, y_lists, y_listLength, y_gone, y_classOfObject, y_slots, y_parameters, y_generic, y_single, y_special, y_kind, y_tokens, y_with, y_methodAt, y_pc, y_chosen, y_many, y_reached, y_opsAt, y_broken, y_arguments, y_operands, y_operator, y_got) (nI g) (nI lv) := by
  unfold wpY_sort
  refine loop_0 (σ := Int32) (fun n i s => wY_sort_5 post (nI g) (nI lv) y_classes y_supers (nI no) y_specials y_depth y_ops y_held y_fault y_steps y_shownSteps y_result y_line y_lineLength y_has y_sealed y_initial y_drafted y_draftHas y_draftInitial y_lists y_listLength y_gone y_classOfObject y_slots y_parameters y_generic y_single y_special y_kind y_tokens y_with y_methodAt y_pc y_chosen y_many y_reached y_opsAt y_broken y_arguments y_operands y_operator y_got n s (nI i)) (fun i s => s = or_ap (or_P y_generic R g p) i) 24 0 rfl ?_ ?_
  · rintro n s rfl
    refine br_t (nI_le (Nat.le_refl _) (by omega)) ⟨pk_in lv 8 hlv, nm_r (e' := upd y_many lv 0) (by rw [bs_clk (by omega), bs_v0]) ⟨pk_in lv 8 hlv, nm_r (e' := upd y_broken lv 0) (by rw [bs_clk (by omega), bs_z0]) ⟨or_mn R p (or_L y_generic R g p) + 2, ?_⟩⟩⟩
    refine my_so62 (L := or_L y_generic R g p) eR hW hlv ha (fun q m hm hb => ?_) (fun ch' mn' bk' h => hp ch' mn' bk' h) (or_mn R p (or_L y_generic R g p)) 0 _ _ _ (by omega) pk_us pk_us lt_0 (fun f hfl => ?_) (fun j _ => rfl)
    · have hP := or_LF hm hb
      exact ⟨hP.1, hs m hm hP.1⟩
    · rw [pk_un hfl, pk_un hfl]; exact ⟨rfl, rfl⟩
  · rintro n i s hi rfl k
    refine br_f (nI_ge (b := 24) hi (by omega)) ⟨pk_in i 24 hi, ?_⟩
    rw [bs_clk (n := i) (by omega)]
    refine br_c (fun eg => ?_) (fun ng => nm_r (nI_1 i) (k _ (or_ap_f (fun z => ng z.1))))
    rw [bs_ml 3 lv]
    refine my_applicable (SP := SP) hW hi (by omega) eg ha (hs i hi eg) (fun happ => ?_) (fun hn => ?_)
    · rw [← eR] at happ
      exact br_f (by decide) (nm_r (e' := or_ap (or_P y_generic R g p) (i + 1)) (or_ap_t ⟨eg, happ⟩) (nm_r (nI_1 i) (k _ rfl)))
    · rw [← eR] at hn
      exact br_t rfl (nm_r (nI_1 i) (k _ (or_ap_f (fun z => hn z.2))))
theorem my_sortAside {post : SY → Prop} {nc no g p : Nat} {SP ar : Nat → Int64} {R : Nat → Nat → Int32} (eR : R = or_R y_line y_lineLength y_classOfObject SP ar p) (hW : or_W nc no g p y_line y_lineLength y_classOfObject y_parameters ar) (ha : ∀ k, k < p → y_arguments (24 + k) = ar k) (hs : ∀ m, m < 24 → y_generic m = nI g → ∀ k, k < p → rl_sp nc no (SP (3 * m + k)) (y_single (3 * m + k)) (y_special (3 * m + k)))
    (h1 : or_L y_generic R g p = 0 → post (y_classes, y_supers, nI no, y_specials, y_depth, y_ops, y_held, 1, y_steps, y_shownSteps, y_result, y_line, y_lineLength, y_has, y_sealed, y_initial, y_drafted, y_draftHas, y_draftInitial, y_lists, y_listLength, y_gone, y_classOfObject, y_slots, y_parameters, y_generic, y_single, y_special, y_kind, y_tokens, y_with, y_methodAt, y_pc, y_chosen, y_many, y_reached, y_opsAt, y_broken, y_arguments, y_operands, y_operator, y_got)) (h6 : ¬ or_L y_generic R g p = 0 → or_ld R p (or_L y_generic R g p) < 24 → post (y_classes, y_supers, nI no, y_specials, y_depth, y_ops, y_held, 6, y_steps, y_shownSteps, y_result, y_line, y_lineLength, y_has, y_sealed, y_initial, y_drafted, y_draftHas, y_draftInitial, y_lists, y_listLength, y_gone, y_classOfObject, y_slots, y_parameters, y_generic, y_single, y_special, y_kind, y_tokens, y_with, y_methodAt, y_pc, y_chosen, y_many, y_reached, y_opsAt, y_broken, y_arguments, y_operands, y_operator, y_got)) (h2 : ¬ or_L y_generic R g p = 0 → ¬ or_ld R p (or_L y_generic R g p) < 24 → post (y_classes, y_supers, nI no, y_specials, y_depth, y_ops, y_held, 2, y_steps, y_shownSteps, y_result, y_line, y_lineLength, y_has, y_sealed, y_initial, y_drafted, y_draftHas, y_draftInitial, y_lists, y_listLength, y_gone, y_classOfObject, y_slots, y_parameters, y_generic, y_single, y_special, y_kind, y_tokens, y_with, y_methodAt, y_pc, y_chosen, y_many, y_reached, y_opsAt, y_broken, y_arguments, y_operands, y_operator, y_got)) : wpY_sortAside post (y_classes, y_supers, nI no, y_specials, y_depth, y_ops, y_held, y_fault, y_steps, y_shownSteps, y_result, y_line, y_lineLength, y_has, y_sealed, y_initial, y_drafted, y_draftHas, y_draftInitial, y_lists, y_listLength, y_gone, y_classOfObject, y_slots, y_parameters, y_generic, y_single, y_special, y_kind, y_tokens, y_with, y_methodAt, y_pc, y_chosen, y_many, y_reached, y_opsAt, y_broken, y_arguments, y_operands, y_operator, y_got) (nI g) := by
  unfold wpY_sortAside
  refine loop_0 (σ := Int32) (fun n i s => wY_sortAside_4 post (nI g) y_classes y_supers (nI no) y_specials y_depth y_ops y_held y_fault y_steps y_shownSteps y_result y_line y_lineLength y_has y_sealed y_initial y_drafted y_draftHas y_draftInitial y_lists y_listLength y_gone y_classOfObject y_slots y_parameters y_generic y_single y_special y_kind y_tokens y_with y_methodAt y_pc y_chosen y_many y_reached y_opsAt y_broken y_arguments y_operands y_operator y_got n s (nI i)) (fun i s => s = or_ap (or_P y_generic R g p) i) 24 0 rfl ?_ ?_
  · rintro n s rfl
    refine br_t (nI_le (Nat.le_refl _) (by omega)) (br_c (fun z => h1 z) (fun z => ?_))
    refine my_leader (SP := SP) (fr := 24) (L := or_L y_generic R g p) hW (by omega) ha (fun m hm hb => ?_) ?_
    · have hP := or_LF (q := 0) hm hb
      exact ⟨hP.1, hs m hm hP.1⟩
    · rw [← eR]
      by_cases hl : or_ld R p (or_L y_generic R g p) < 24
      · rw [bs_ct hl]
        exact br_t (bs_ge0 (by omega)) (h6 z hl)
      · rw [bs_cf hl]
        exact br_f (by decide) (h2 z hl)
  · rintro n i s hi rfl k
    refine br_f (nI_ge (b := 24) hi (by omega)) ⟨pk_in i 24 hi, ?_⟩
    rw [bs_clk (n := i) (by omega)]
    refine br_c (fun eg => ?_) (fun ng => nm_r (nI_1 i) (k _ (or_ap_f (fun z => ng z.1))))
    refine my_applicable (SP := SP) (fr := 24) hW hi (by omega) eg ha (hs i hi eg) (fun happ => ?_) (fun hn => ?_)
    · rw [← eR] at happ
      exact br_f (by decide) (nm_r (e' := or_ap (or_P y_generic R g p) (i + 1)) (or_ap_t ⟨eg, happ⟩) (nm_r (nI_1 i) (k _ rfl)))
    · rw [← eR] at hn
      exact br_t rfl (nm_r (nI_1 i) (k _ (or_ap_f (fun z => hn z.2))))
end
end
section
/-! takeArguments, callable, bring, order -/
def ca_tr (a b c : Int64) : Nat → Int64 := fun k => if k = 0 then a else if k = 1 then b else c
theorem ca_tr0 (a b c : Int64) : ca_tr a b c 0 = a := rfl
theorem ca_tr1 (a b c : Int64) : ca_tr a b c 1 = b := rfl
theorem ca_tr2 (a b c : Int64) : ca_tr a b c 2 = c := rfl
theorem ca_3 {P : Nat → Prop} (h0 : P 0) (h1 : P 1) (h2 : P 2) {k : Nat} (hk : k < 3) : P k := by
  have h : k = 0 ∨ k = 1 ∨ k = 2 := by omega
  rcases h with rfl | rfl | rfl
  · exact h0
  · exact h1
  · exact h2
def ca_ag (f : Nat → Int64) (b : Nat) (x y z : Int64) : Nat → Int64 := vp_updL (vp_updL (vp_updL f b x) (b + 1) y) (b + 2) z
theorem ca_ag_k {f : Nat → Int64} {b k : Nat} {x y z : Int64} (hk : k < 3) : ca_ag f b x y z (b + k) = ca_tr x y z k := by
  unfold ca_ag
  refine ca_3 (P := fun k => vp_updL (vp_updL (vp_updL f b x) (b + 1) y) (b + 2) z (b + k) = ca_tr x y z k) ?_ ?_ ?_ hk
  · show vp_updL (vp_updL (vp_updL f b x) (b + 1) y) (b + 2) z b = x
    rw [pk_uLn (by omega), pk_uLn (by omega), pk_uLs]
  · show vp_updL (vp_updL (vp_updL f b x) (b + 1) y) (b + 2) z (b + 1) = y
    rw [pk_uLn (by omega), pk_uLs]
  · show vp_updL (vp_updL (vp_updL f b x) (b + 1) y) (b + 2) z (b + 2) = z
    rw [pk_uLs]
theorem ca_ag_n {f : Nat → Int64} {b j : Nat} {x y z : Int64} (h : j < b ∨ b + 3 ≤ j) : ca_ag f b x y z j = f j := by
  unfold ca_ag
  rw [pk_uLn (by omega), pk_uLn (by omega), pk_uLn (by omega)]
section
variable {x_classCount : Int32} {x_superCount : Int32} {x_objectCount : Int32} {x_draftSpecialCount : Int32} {x_state : Int32} {x_stepCount : Int32} {x_latestValue : Int64} {x_enterGeneric : Int32} {x_enterPlace : Int32} {x_frameCount : Int32} {x_operatorCount : Int32} {x_valueCount : Int32} {x_lineClass : Nat → Int32} {x_lineLength : Nat → Int32} {x_isSealed : Nat → Int32} {x_classHasSlot : Nat → Int32} {x_classSlot : Nat → Int32} {x_superDraft : Nat → Int32} {x_objectClass : Nat → Int32} {x_objectHasSlot : Nat → Int32} {x_objectSlot : Nat → Int64} {x_parameterCount : Nat → Int32} {x_methodGeneric : Nat → Int32} {x_specialiser : Nat → Int64} {x_tokenKind : Nat → Int32} {x_tokenValue : Nat → Int32} {x_tokenCount : Nat → Int32} {x_argument : Nat → Int64} {x_rank : Nat → Int32} {x_orderPlace : Nat → Int32} {x_frameMethod : Nat → Int32} {x_framePlace : Nat → Int32} {x_frameToken : Nat → Int32} {x_frameOperators : Nat → Int32} {x_frameArgument : Nat → Int64} {x_operatorKind : Nat → Int32} {x_operatorValue : Nat → Int32} {x_operatorLeft : Nat → Int32} {x_workedOut : Nat → Int64} {y_classes : Int32} {y_supers : Int32} {y_objects : Int32} {y_specials : Int32} {y_depth : Int32} {y_ops : Int32} {y_held : Int32} {y_fault : Int32} {y_steps : Int32} {y_shownSteps : Int32} {y_result : Int64} {y_line : Nat → Int32} {y_lineLength : Nat → Int32} {y_has : Nat → Int32} {y_sealed : Nat → Int32} {y_initial : Nat → Int32} {y_drafted : Nat → Int32} {y_draftHas : Nat → Int32} {y_draftInitial : Nat → Int32} {y_lists : Nat → Int32} {y_listLength : Nat → Int32} {y_gone : Nat → Int32} {y_classOfObject : Nat → Int32} {y_slots : Nat → Int64} {y_parameters : Nat → Int32} {y_generic : Nat → Int32} {y_single : Nat → Int32} {y_special : Nat → Int64} {y_kind : Nat → Int32} {y_tokens : Nat → Int32} {y_with : Nat → Int32} {y_methodAt : Nat → Int32} {y_pc : Nat → Int32} {y_chosen : Nat → Int32} {y_many : Nat → Int32} {y_reached : Nat → Int32} {y_opsAt : Nat → Int32} {y_broken : Nat → Int32} {y_arguments : Nat → Int64} {y_operands : Nat → Int64} {y_operator : Nat → Int32} {y_got : Nat → Int32}
theorem mx_takeArguments {post : Int32 → SX → Prop} {no g p : Nat} {a b c : Int64} (hno : no ≤ 20) (hg : g < 5) (hp3 : p ≤ 3) (ep : x_parameterCount g = nI p) (h1 : (∀ k, k < p → rl_val no (ca_tr a b c k)) → post 1 (x_classCount, x_superCount, nI no, x_draftSpecialCount, x_state, x_stepCount, x_latestValue, x_enterGeneric, x_enterPlace, x_frameCount, x_operatorCount, x_valueCount, x_lineClass, x_lineLength, x_isSealed, x_classHasSlot, x_classSlot, x_superDraft, x_objectClass, x_objectHasSlot, x_objectSlot, x_parameterCount, x_methodGeneric, x_specialiser, x_tokenKind, x_tokenValue, x_tokenCount, ca_ag x_argument 0 a b c, x_rank, x_orderPlace, x_frameMethod, x_framePlace, x_frameToken, x_frameOperators, x_frameArgument, x_operatorKind, x_operatorValue, x_operatorLeft, x_workedOut)) (h0 : (¬ ∀ k, k < p → rl_val no (ca_tr a b c k)) → post 0 (x_classCount, x_superCount, nI no, x_draftSpecialCount, x_state, x_stepCount, x_latestValue, x_enterGeneric, x_enterPlace, x_frameCount, x_operatorCount, x_valueCount, x_lineClass, x_lineLength, x_isSealed, x_classHasSlot, x_classSlot, x_superDraft, x_objectClass, x_objectHasSlot, x_objectSlot, x_parameterCount, x_methodGeneric, x_specialiser, x_tokenKind, x_tokenValue, x_tokenCount, ca_ag x_argument 0 a b c, x_rank, x_orderPlace, x_frameMethod, x_framePlace, x_frameToken, x_frameOperators, x_frameArgument, x_operatorKind, x_operatorValue, x_operatorLeft, x_workedOut)) : wpX_takeArguments post (x_classCount, x_superCount, nI no, x_draftSpecialCount, x_state, x_stepCount, x_latestValue, x_enterGeneric, x_enterPlace, x_frameCount, x_operatorCount, x_valueCount, x_lineClass, x_lineLength, x_isSealed, x_classHasSlot, x_classSlot, x_superDraft, x_objectClass, x_objectHasSlot, x_objectSlot, x_parameterCount, x_methodGeneric, x_specialiser, x_tokenKind, x_tokenValue, x_tokenCount, x_argument, x_rank, x_orderPlace, x_frameMethod, x_framePlace, x_frameToken, x_frameOperators, x_frameArgument, x_operatorKind, x_operatorValue, x_operatorLeft, x_workedOut) (nI g) a b c := by
  unfold wpX_takeArguments
  refine mx_isGeneric_t hg (br_f (by decide) (nm_e (nm_e (nm_r (e' := ca_ag x_argument 0 a b c) rfl ?_))))
  refine loop_0 (σ := Unit) (fun n i _ => wX_takeArguments_36 post (nI g) x_classCount x_superCount (nI no) x_draftSpecialCount x_state x_stepCount x_latestValue x_enterGeneric x_enterPlace x_frameCount x_operatorCount x_valueCount x_lineClass x_lineLength x_isSealed x_classHasSlot x_classSlot x_superDraft x_objectClass x_objectHasSlot x_objectSlot x_parameterCount x_methodGeneric x_specialiser x_tokenKind x_tokenValue x_tokenCount (ca_ag x_argument 0 a b c) x_rank x_orderPlace x_frameMethod x_framePlace x_frameToken x_frameOperators x_frameArgument x_operatorKind x_operatorValue x_operatorLeft x_workedOut n (nI i)) (fun i _ => ∀ k, k < i → rl_val no (ca_tr a b c k)) p () lt_0 ?_ ?_
  · intro n _ hI
    refine ⟨pk_in g 5 hg, ?_⟩
    rw [bs_clk (n := g) (by omega), ep]
    exact br_t (nI_le (Nat.le_refl _) (by omega)) (h1 hI)
  · intro n i _ hi hI k
    refine ⟨pk_in g 5 hg, ?_⟩
    rw [bs_clk (n := g) (by omega), ep]
    refine br_f (nI_ge hi (by omega)) ⟨pk_in i 3 (by omega), ?_⟩
    have e := ca_ag_k (f := x_argument) (b := 0) (x := a) (y := b) (z := c) (k := i) (by omega)
    rw [Nat.zero_add] at e
    rw [bs_clk (n := i) (by omega), e]
    by_cases hv : rl_val no (ca_tr a b c i)
    · exact mx_isValue_t hno hv (br_f (by decide) (nm_r (nI_1 i) (k () (lt_s hI hv))))
    · exact mx_isValue_f hno hv (br_t rfl (h0 (fun z => hv (z i hi))))
theorem my_callable {post : Int32 → Prop} {nc no g p : Nat} {a b c : Int64} (h2 : 2 ≤ nc) (hnc : nc ≤ 16) (hno : no ≤ 20) (hoc : ∀ k, k < no → ∃ c, c < nc ∧ y_classOfObject k = nI c) (hg : g < 5) (hp1 : 1 ≤ p) (hp3 : p ≤ 3) (ep : y_parameters g = nI p) (h1 : (∀ k, k < p → rl_val no (ca_tr a b c k)) → post 1) (h0 : (¬ ∀ k, k < p → rl_val no (ca_tr a b c k)) → post 0) : wpY_callable post (y_classes, y_supers, nI no, y_specials, y_depth, y_ops, y_held, y_fault, y_steps, y_shownSteps, y_result, y_line, y_lineLength, y_has, y_sealed, y_initial, y_drafted, y_draftHas, y_draftInitial, y_lists, y_listLength, y_gone, y_classOfObject, y_slots, y_parameters, y_generic, y_single, y_special, y_kind, y_tokens, y_with, y_methodAt, y_pc, y_chosen, y_many, y_reached, y_opsAt, y_broken, y_arguments, y_operands, y_operator, y_got) (nI g) a b c := by
  have hkc : ∀ v, (rl_val no v ∧ ¬ ob_kc y_classOfObject no v < 0) ∨ (¬ rl_val no v ∧ ob_kc y_classOfObject no v < 0) := by
    intro v
    by_cases hv : rl_val no v
    · obtain ⟨d, hd, _, ek⟩ := or_cv_v h2 hno hoc hv
      exact Or.inl ⟨hv, by rw [ek]; exact nI_pos (by omega)⟩
    · exact Or.inr ⟨hv, by rw [ob_kc_n hv]; decide⟩
  have h42 : (∀ k, k < p → k < 2 → rl_val no (ca_tr a b c k)) → wY_callable_42 post c (nI p) y_classes y_supers (nI no) y_specials y_depth y_ops y_held y_fault y_steps y_shownSteps y_result y_line y_lineLength y_has y_sealed y_initial y_drafted y_draftHas y_draftInitial y_lists y_listLength y_gone y_classOfObject y_slots y_parameters y_generic y_single y_special y_kind y_tokens y_with y_methodAt y_pc y_chosen y_many y_reached y_opsAt y_broken y_arguments y_operands y_operator y_got := by
    intro hab
    refine pk_lt p 3 (fun hlt => h1 (fun k hk => hab k hk (by omega))) (fun hge => my_classOf hno ?_)
    rcases hkc c with ⟨hv, hz⟩ | ⟨hv, hz⟩
    · refine br_f hz (h1 (fun k hk => ?_))
      by_cases e : k = 2
      · rw [e]; exact hv
      · exact hab k hk (by omega)
    · exact br_t hz (h0 (fun z => hv (z 2 (by omega))))
  unfold wpY_callable
  refine my_out_t (n := 5) hg (by omega) (br_t rfl ⟨pk_in g 5 hg, nm_r (e' := nI p) (by rw [bs_clk (by omega), ep]) (my_classOf hno ?_)⟩)
  rcases hkc a with ⟨hva, hza⟩ | ⟨hva, hza⟩
  · refine br_f hza (pk_lt p 2 (fun hlt => h42 (fun k hk _ => ?_)) (fun hge => my_classOf hno ?_))
    · have e : k = 0 := by omega
      rw [e]; exact hva
    · rcases hkc b with ⟨hvb, hzb⟩ | ⟨hvb, hzb⟩
      · refine br_f hzb (h42 (fun k hk h2 => ?_))
        have e : k = 0 ∨ k = 1 := by omega
        rcases e with rfl | rfl
        · exact hva
        · exact hvb
      · exact br_t hzb (h0 (fun z => hvb (z 1 (by omega))))
  · exact br_t hza (h0 (fun z => hva (z 0 (by omega))))
theorem my_bring {post : SY → Prop} {lv : Nat} {a b c : Int64} (hlv : lv ≤ 8) (hp : post (y_classes, y_supers, y_objects, y_specials, y_depth, y_ops, y_held, y_fault, y_steps, y_shownSteps, y_result, y_line, y_lineLength, y_has, y_sealed, y_initial, y_drafted, y_draftHas, y_draftInitial, y_lists, y_listLength, y_gone, y_classOfObject, y_slots, y_parameters, y_generic, y_single, y_special, y_kind, y_tokens, y_with, y_methodAt, y_pc, y_chosen, y_many, y_reached, y_opsAt, y_broken, ca_ag y_arguments (3 * lv) a b c, y_operands, y_operator, y_got)) : wpY_bring post (y_classes, y_supers, y_objects, y_specials, y_depth, y_ops, y_held, y_fault, y_steps, y_shownSteps, y_result, y_line, y_lineLength, y_has, y_sealed, y_initial, y_drafted, y_draftHas, y_draftInitial, y_lists, y_listLength, y_gone, y_classOfObject, y_slots, y_parameters, y_generic, y_single, y_special, y_kind, y_tokens, y_with, y_methodAt, y_pc, y_chosen, y_many, y_reached, y_opsAt, y_broken, y_arguments, y_operands, y_operator, y_got) (nI lv) a b c := by
  have e1 : (3 : Int32) * nI lv + 1 = nI (3 * lv + 1) := by rw [bs_ml 3 lv, nI_1]
  have e2 : (3 : Int32) * nI lv + 2 = nI (3 * lv + 2) := by
    rw [bs_ml 3 lv, show (2 : Int32) = nI 2 from rfl, nI_add]
  refine ⟨pk_in (3 * lv) 27 (by omega) (bs_ml 3 lv), nm_r (e' := vp_updL y_arguments (3 * lv) a) (by rw [bs_ml 3 lv, bs_clk (by omega)]) ⟨pk_in (3 * lv + 1) 27 (by omega) e1, nm_r (e' := vp_updL (vp_updL y_arguments (3 * lv) a) (3 * lv + 1) b) (by rw [e1, bs_clk (by omega)]) ⟨pk_in (3 * lv + 2) 27 (by omega) e2, nm_r (e' := ca_ag y_arguments (3 * lv) a b c) (by rw [e2, bs_clk (by omega)]; rfl) hp⟩⟩⟩
end
theorem i_vc_order {k : Nat} {u : SX} {v : SY} (I : i_Rel k u v) (hk : k + 9 ≤ 4608) (v1 : Int32) (a1 : Int64) (a2 : Int64) (a3 : Int64) (v8 : Int32) : wpX_order (fun r u' => wpY_order (fun r' v' => r' = r ∧ i_Rel (k + 9) u' v') v v1 a1 a2 a3 v8) u v1 a1 a2 a3 v8 := by
  obtain ⟨x_classCount, x_superCount, x_objectCount, x_draftSpecialCount, x_state, x_stepCount, x_latestValue, x_enterGeneric, x_enterPlace, x_frameCount, x_operatorCount, x_valueCount, x_lineClass, x_lineLength, x_isSealed, x_classHasSlot, x_classSlot, x_superDraft, x_objectClass, x_objectHasSlot, x_objectSlot, x_parameterCount, x_methodGeneric, x_specialiser, x_tokenKind, x_tokenValue, x_tokenCount, x_argument, x_rank, x_orderPlace, x_frameMethod, x_framePlace, x_frameToken, x_frameOperators, x_frameArgument, x_operatorKind, x_operatorValue, x_operatorLeft, x_workedOut⟩ := u
  obtain ⟨y_classes, y_supers, y_objects, y_specials, y_depth, y_ops, y_held, y_fault, y_steps, y_shownSteps, y_result, y_line, y_lineLength, y_has, y_sealed, y_initial, y_drafted, y_draftHas, y_draftInitial, y_lists, y_listLength, y_gone, y_classOfObject, y_slots, y_parameters, y_generic, y_single, y_special, y_kind, y_tokens, y_with, y_methodAt, y_pc, y_chosen, y_many, y_reached, y_opsAt, y_broken, y_arguments, y_operands, y_operator, y_got⟩ := v
  obtain ⟨nc, no, ns, nd, rfl, rfl, rfl, rfl, rfl, rfl, rfl, rfl, rfl, rfl, rfl, rfl, rfl, rfl, rfl, rfl, rfl, rfl, rfl, rfl, hcls, hsup, hslt, hobj, hpar, hgen, htok, hbod, hspc, hunq⟩ := I
  have J : ∀ (ag : Nat → Int64) (rk op : Nat → Int32) (agy : Nat → Int64) (ch mn bk : Nat → Int32), i_Rel (k + 9) (nI nc, nI ns, nI no, nI nd, x_state, x_stepCount, x_latestValue, x_enterGeneric, x_enterPlace, x_frameCount, x_operatorCount, x_valueCount, x_lineClass, x_lineLength, x_isSealed, x_classHasSlot, x_classSlot, x_superDraft, x_objectClass, x_objectHasSlot, x_objectSlot, x_parameterCount, x_methodGeneric, x_specialiser, x_tokenKind, x_tokenValue, x_tokenCount, ag, rk, op, x_frameMethod, x_framePlace, x_frameToken, x_frameOperators, x_frameArgument, x_operatorKind, x_operatorValue, x_operatorLeft, x_workedOut) (nI nc, nI ns, nI no, nI nd, y_depth, y_ops, y_held, y_fault, y_steps, x_stepCount, x_latestValue, x_lineClass, x_lineLength, y_has, x_isSealed, y_initial, x_superDraft, y_draftHas, y_draftInitial, y_lists, y_listLength, y_gone, x_objectClass, y_slots, x_parameterCount, x_methodGeneric, y_single, y_special, x_tokenKind, x_tokenCount, x_tokenValue, y_methodAt, y_pc, ch, mn, y_reached, y_opsAt, bk, agy, y_operands, y_operator, y_got) := fun ag rk op agy ch mn bk => ⟨nc, no, ns, nd, rfl, rfl, rfl, rfl, rfl, rfl, rfl, rfl, rfl, rfl, rfl, rfl, rfl, rfl, rfl, rfl, rfl, rfl, rfl, rfl, hcls, hsup, hslt, hobj, hpar, hgen, htok, hbod, hspc, hunq⟩
  have hn : nc ≤ 16 := hcls.2.1
  have hno := hobj.1
  have hbad : ∀ (ag : Nat → Int64) (g : Nat), g < 5 → (∀ p, p ≤ 3 → x_parameterCount g = nI p → ¬ ∀ q, q < p → rl_val no (ca_tr a1 a2 a3 q)) → wpY_order (fun r' v' => r' = (-1 : Int32) ∧ i_Rel (k + 9) (nI nc, nI ns, nI no, nI nd, x_state, x_stepCount, x_latestValue, x_enterGeneric, x_enterPlace, x_frameCount, x_operatorCount, x_valueCount, x_lineClass, x_lineLength, x_isSealed, x_classHasSlot, x_classSlot, x_superDraft, x_objectClass, x_objectHasSlot, x_objectSlot, x_parameterCount, x_methodGeneric, x_specialiser, x_tokenKind, x_tokenValue, x_tokenCount, ag, x_rank, x_orderPlace, x_frameMethod, x_framePlace, x_frameToken, x_frameOperators, x_frameArgument, x_operatorKind, x_operatorValue, x_operatorLeft, x_workedOut) v') (nI nc, nI ns, nI no, nI nd, y_depth, y_ops, y_held, y_fault, y_steps, x_stepCount, x_latestValue, x_lineClass, x_lineLength, y_has, x_isSealed, y_initial, x_superDraft, y_draftHas, y_draftInitial, y_lists, y_listLength, y_gone, x_objectClass, y_slots, x_parameterCount, x_methodGeneric, y_single, y_special, x_tokenKind, x_tokenCount, x_tokenValue, y_methodAt, y_pc, y_chosen, y_many, y_reached, y_opsAt, y_broken, y_arguments, y_operands, y_operator, y_got) (nI g) a1 a2 a3 v8 := by
    intro ag g hg hb
    obtain ⟨p, hp1, hp3, ep⟩ := hpar g hg
    unfold wpY_order
    exact my_callable hcls.1 hn hno hobj.2.1 hg hp1 hp3 ep (fun h => absurd h (hb p hp3 ep)) (fun _ => br_t rfl ⟨rfl, J _ _ _ _ _ _ _⟩)
  rcases bs_ar2 v1 (n := 5) (by omega) with h | ⟨g, hg, rfl⟩
  · have fin : wpY_order (fun r' v' => r' = (-1 : Int32) ∧ i_Rel (k + 9) (nI nc, nI ns, nI no, nI nd, x_state, x_stepCount, x_latestValue, x_enterGeneric, x_enterPlace, x_frameCount, x_operatorCount, x_valueCount, x_lineClass, x_lineLength, x_isSealed, x_classHasSlot, x_classSlot, x_superDraft, x_objectClass, x_objectHasSlot, x_objectSlot, x_parameterCount, x_methodGeneric, x_specialiser, x_tokenKind, x_tokenValue, x_tokenCount, x_argument, x_rank, x_orderPlace, x_frameMethod, x_framePlace, x_frameToken, x_frameOperators, x_frameArgument, x_operatorKind, x_operatorValue, x_operatorLeft, x_workedOut) v') (nI nc, nI ns, nI no, nI nd, y_depth, y_ops, y_held, y_fault, y_steps, x_stepCount, x_latestValue, x_lineClass, x_lineLength, y_has, x_isSealed, y_initial, x_superDraft, y_draftHas, y_draftInitial, y_lists, y_listLength, y_gone, x_objectClass, y_slots, x_parameterCount, x_methodGeneric, y_single, y_special, x_tokenKind, x_tokenCount, x_tokenValue, y_methodAt, y_pc, y_chosen, y_many, y_reached, y_opsAt, y_broken, y_arguments, y_operands, y_operator, y_got) v1 a1 a2 a3 v8 := by
      unfold wpY_order
      unfold wpY_callable
      exact my_out_f (q := 5) h (br_f (by decide) (br_t rfl ⟨rfl, J _ _ _ _ _ _ _⟩))
    unfold wpX_order
    refine br_c (fun _ => fin) (fun _ => ?_)
    unfold wpX_takeArguments
    exact mx_isGeneric_f h (br_t rfl (br_t rfl fin))
  · obtain ⟨p, hp1, hp3, ep⟩ := hpar g hg
    unfold wpX_order
    refine br_c (fun hneg => ?_) (fun hpos => ?_)
    · unfold wpY_order
      refine my_callable hcls.1 hn hno hobj.2.1 hg hp1 hp3 ep (fun h => br_f (by decide) (br_f ?_ ⟨rfl, J _ _ _ _ _ _ _⟩)) (fun _ => br_t rfl ⟨rfl, J _ _ _ _ _ _ _⟩)
      exact Int32.not_le.mpr hneg
    · refine mx_takeArguments hno hg hp3 ep (fun hv => br_f (by decide) ?_) (fun hv => br_t rfl ?_)
      · have hW : or_W nc no g p x_lineClass x_lineLength x_objectClass x_parameterCount (ca_tr a1 a2 a3) := ⟨hcls, hno, hobj.2.1, hg, hp1, hp3, ep, hv⟩
        refine mx_findOrder hW (fun q hq => ?_) (fun rk' op' ho => ?_)
        · have e := ca_ag_k (f := x_argument) (b := 0) (x := a1) (y := a2) (z := a3) (k := q) (by omega)
          rw [Nat.zero_add] at e
          exact e
        · have fin : ∀ r : Int32, (or_mn (or_R x_lineClass x_lineLength x_objectClass x_specialiser (ca_tr a1 a2 a3) p) p (or_L x_methodGeneric (or_R x_lineClass x_lineLength x_objectClass x_specialiser (ca_tr a1 a2 a3) p) g p) ≤ v8.toNatClampNeg → r = bs_ci (or_sq (or_R x_lineClass x_lineLength x_objectClass x_specialiser (ca_tr a1 a2 a3) p) p (or_L x_methodGeneric (or_R x_lineClass x_lineLength x_objectClass x_specialiser (ca_tr a1 a2 a3) p) g p) (or_mn (or_R x_lineClass x_lineLength x_objectClass x_specialiser (ca_tr a1 a2 a3) p) p (or_L x_methodGeneric (or_R x_lineClass x_lineLength x_objectClass x_specialiser (ca_tr a1 a2 a3) p) g p)) = 0) (-1) (-2)) → (v8.toNatClampNeg < or_mn (or_R x_lineClass x_lineLength x_objectClass x_specialiser (ca_tr a1 a2 a3) p) p (or_L x_methodGeneric (or_R x_lineClass x_lineLength x_objectClass x_specialiser (ca_tr a1 a2 a3) p) g p) → r = nI (or_ld (or_R x_lineClass x_lineLength x_objectClass x_specialiser (ca_tr a1 a2 a3) p) p (or_sq (or_R x_lineClass x_lineLength x_objectClass x_specialiser (ca_tr a1 a2 a3) p) p (or_L x_methodGeneric (or_R x_lineClass x_lineLength x_objectClass x_specialiser (ca_tr a1 a2 a3) p) g p) v8.toNatClampNeg))) → wpY_order (fun r' v' => r' = r ∧ i_Rel (k + 9) (nI nc, nI ns, nI no, nI nd, x_state, x_stepCount, x_latestValue, x_enterGeneric, x_enterPlace, x_frameCount, x_operatorCount, x_valueCount, x_lineClass, x_lineLength, x_isSealed, x_classHasSlot, x_classSlot, x_superDraft, x_objectClass, x_objectHasSlot, x_objectSlot, x_parameterCount, x_methodGeneric, x_specialiser, x_tokenKind, x_tokenValue, x_tokenCount, ca_ag x_argument 0 a1 a2 a3, rk', op', x_frameMethod, x_framePlace, x_frameToken, x_frameOperators, x_frameArgument, x_operatorKind, x_operatorValue, x_operatorLeft, x_workedOut) v') (nI nc, nI ns, nI no, nI nd, y_depth, y_ops, y_held, y_fault, y_steps, x_stepCount, x_latestValue, x_lineClass, x_lineLength, y_has, x_isSealed, y_initial, x_superDraft, y_draftHas, y_draftInitial, y_lists, y_listLength, y_gone, x_objectClass, y_slots, x_parameterCount, x_methodGeneric, y_single, y_special, x_tokenKind, x_tokenCount, x_tokenValue, y_methodAt, y_pc, y_chosen, y_many, y_reached, y_opsAt, y_broken, y_arguments, y_operands, y_operator, y_got) (nI g) a1 a2 a3 v8 := by
            obtain ⟨w, hw, rfl⟩ := nI_of hpos
            rw [bs_clk (n := w) hw]
            intro r hr1 hr2
            have hle := or_mn_le (or_R x_lineClass x_lineLength x_objectClass x_specialiser (ca_tr a1 a2 a3) p) p (or_L x_methodGeneric (or_R x_lineClass x_lineLength x_objectClass x_specialiser (ca_tr a1 a2 a3) p) g p)
            unfold wpY_order
            refine my_callable hcls.1 hn hno hobj.2.1 hg hp1 hp3 ep (fun _ => br_f (by decide) (br_t (bs_ge0 hw) ?_)) (fun z => absurd hv z)
            refine my_bring (lv := 0) (by omega) ?_
            refine my_sort (lv := 0) (SP := x_specialiser) (ar := ca_tr a1 a2 a3) rfl hW (by omega) (fun q hq => ca_ag_k (by omega)) (fun m hm e q hq => hspc.2.2 m g p hm hg hp3 e ep q hq) (fun ch' mn' bk' hS => ?_)
            obtain ⟨s1, s2, s3, _, _⟩ := hS
            dsimp only
            rw [s1]
            refine pk_le (or_mn (or_R x_lineClass x_lineLength x_objectClass x_specialiser (ca_tr a1 a2 a3) p) p (or_L x_methodGeneric (or_R x_lineClass x_lineLength x_objectClass x_specialiser (ca_tr a1 a2 a3) p) g p)) w (fun h => ?_) (fun h => ⟨pk_in w 192 (by omega), ?_, J _ _ _ _ _ _ _⟩)
            · rw [s2]
              by_cases z : or_sq (or_R x_lineClass x_lineLength x_objectClass x_specialiser (ca_tr a1 a2 a3) p) p (or_L x_methodGeneric (or_R x_lineClass x_lineLength x_objectClass x_specialiser (ca_tr a1 a2 a3) p) g p) (or_mn (or_R x_lineClass x_lineLength x_objectClass x_specialiser (ca_tr a1 a2 a3) p) p (or_L x_methodGeneric (or_R x_lineClass x_lineLength x_objectClass x_specialiser (ca_tr a1 a2 a3) p) g p)) = 0
              · rw [bs_ct z]
                have e := hr1 h
                rw [bs_ct z] at e
                exact br_t rfl ⟨e.symm, J _ _ _ _ _ _ _⟩
              · rw [bs_cf z]
                have e := hr1 h
                rw [bs_cf z] at e
                exact br_f (by decide) ⟨e.symm, J _ _ _ _ _ _ _⟩
            · have e := s3 w h
              rw [show 24 * 0 + w = w by omega] at e
              rw [bs_clk hw, e, hr2 h]
          obtain ⟨w, hw, rfl⟩ := nI_of hpos
          rw [bs_clk (n := w) hw] at fin
          have hle := or_mn_le (or_R x_lineClass x_lineLength x_objectClass x_specialiser (ca_tr a1 a2 a3) p) p (or_L x_methodGeneric (or_R x_lineClass x_lineLength x_objectClass x_specialiser (ca_tr a1 a2 a3) p) g p)
          refine pk_le 25 w (fun h => fin _ (fun h2 => ?_) (fun h2 => by omega)) (fun h => ⟨pk_in w 25 h, fin _ (fun h2 => ?_) (fun h2 => ?_)⟩)
          · rw [ho 24 (by omega)]
            exact or_ox_ge (by omega)
          · rw [bs_clk hw, ho w h]
            exact or_ox_ge h2
          · rw [bs_clk hw, ho w h]
            exact or_ox_lt h2
      · exact hbad _ g hg (fun p' hp' ep' => by rw [ep] at ep'; have := bs_inj (by omega) (by omega) ep'; subst this; exact hv)
end
section
/-! how many operands; the end of an expression -/
theorem pa_det {A : Nat → Nat} : ∀ (d d' pc q : Nat), rl_pn A d pc q → rl_pn A d' pc q → d = d' := by
  intro d
  induction d with
  | zero =>
    intro d' pc q h h'
    have e : q = 0 := h
    subst e
    cases d' with
    | zero => rfl
    | succ d' =>
      obtain ⟨k', e, _⟩ := h'
      omega
  | succ d ih =>
    rintro d' pc q ⟨k', e, h⟩ h'
    subst e
    cases d' with
    | zero =>
      have e : k' + 1 = 0 := h'
      omega
    | succ d' =>
      obtain ⟨k2, e2, h2⟩ := h'
      have e3 : k2 = k' := by omega
      subst e3
      rw [ih d' (pc + 1) _ h h2]
theorem pa_split {A : Nat → Nat} : ∀ (d pc a b : Nat), rl_pn A d pc (a + b) → ∃ s, s ≤ d ∧ rl_pn A s pc a ∧ rl_pn A (d - s) (pc + s) b := by
  intro d
  induction d with
  | zero =>
    intro pc a b h
    have e : a + b = 0 := h
    exact ⟨0, Nat.le_refl _, (show a = 0 by omega), (show b = 0 by omega)⟩
  | succ d ih =>
    rintro pc a b ⟨k', e, h⟩
    cases a with
    | zero =>
      refine ⟨0, Nat.zero_le _, rfl, k', by omega, h⟩
    | succ a =>
      have e2 : k' = a + b := by omega
      subst e2
      rw [show a + b + A pc = (a + A pc) + b by omega] at h
      obtain ⟨s, hs, h1, h2⟩ := ih (pc + 1) _ _ h
      refine ⟨s + 1, by omega, ⟨a, rfl, h1⟩, ?_⟩
      rw [show d + 1 - (s + 1) = d - s by omega, show pc + (s + 1) = pc + 1 + s by omega]
      exact h2
theorem pa_zero {A : Nat → Nat} {d pc : Nat} (h : rl_pn A d pc 0) : d = 0 := pa_det d 0 pc 0 h rfl
theorem pa_ar3 {nc : Nat} {PC : Nat → Int32} {k v : Int32} (hpar : rl_par PC) (h : rl_tk nc k v) : rl_ar PC k v ≤ 3 := by
  obtain ⟨q, hq, rfl, _, h3, _⟩ := h
  unfold rl_ar
  by_cases e : nI q = 3
  · rw [if_pos e]
    obtain ⟨a, ha, rfl⟩ := h3 (bs_inj (b := 3) (by omega) (by omega) e)
    obtain ⟨p, hp1, hp3, ep⟩ := hpar a ha
    rw [bs_clk (by omega), ep, bs_clk (by omega)]
    exact hp3
  · rw [if_neg e]
    repeat' split
    all_goals omega
section
variable {x_classCount : Int32} {x_superCount : Int32} {x_objectCount : Int32} {x_draftSpecialCount : Int32} {x_state : Int32} {x_stepCount : Int32} {x_latestValue : Int64} {x_enterGeneric : Int32} {x_enterPlace : Int32} {x_frameCount : Int32} {x_operatorCount : Int32} {x_valueCount : Int32} {x_lineClass : Nat → Int32} {x_lineLength : Nat → Int32} {x_isSealed : Nat → Int32} {x_classHasSlot : Nat → Int32} {x_classSlot : Nat → Int32} {x_superDraft : Nat → Int32} {x_objectClass : Nat → Int32} {x_objectHasSlot : Nat → Int32} {x_objectSlot : Nat → Int64} {x_parameterCount : Nat → Int32} {x_methodGeneric : Nat → Int32} {x_specialiser : Nat → Int64} {x_tokenKind : Nat → Int32} {x_tokenValue : Nat → Int32} {x_tokenCount : Nat → Int32} {x_argument : Nat → Int64} {x_rank : Nat → Int32} {x_orderPlace : Nat → Int32} {x_frameMethod : Nat → Int32} {x_framePlace : Nat → Int32} {x_frameToken : Nat → Int32} {x_frameOperators : Nat → Int32} {x_frameArgument : Nat → Int64} {x_operatorKind : Nat → Int32} {x_operatorValue : Nat → Int32} {x_operatorLeft : Nat → Int32} {x_workedOut : Nat → Int64} {y_classes : Int32} {y_supers : Int32} {y_objects : Int32} {y_specials : Int32} {y_depth : Int32} {y_ops : Int32} {y_held : Int32} {y_fault : Int32} {y_steps : Int32} {y_shownSteps : Int32} {y_result : Int64} {y_line : Nat → Int32} {y_lineLength : Nat → Int32} {y_has : Nat → Int32} {y_sealed : Nat → Int32} {y_initial : Nat → Int32} {y_drafted : Nat → Int32} {y_draftHas : Nat → Int32} {y_draftInitial : Nat → Int32} {y_lists : Nat → Int32} {y_listLength : Nat → Int32} {y_gone : Nat → Int32} {y_classOfObject : Nat → Int32} {y_slots : Nat → Int64} {y_parameters : Nat → Int32} {y_generic : Nat → Int32} {y_single : Nat → Int32} {y_special : Nat → Int64} {y_kind : Nat → Int32} {y_tokens : Nat → Int32} {y_with : Nat → Int32} {y_methodAt : Nat → Int32} {y_pc : Nat → Int32} {y_chosen : Nat → Int32} {y_many : Nat → Int32} {y_reached : Nat → Int32} {y_opsAt : Nat → Int32} {y_broken : Nat → Int32} {y_arguments : Nat → Int64} {y_operands : Nat → Int64} {y_operator : Nat → Int32} {y_got : Nat → Int32}
theorem pa_ar_0 (PC : Nat → Int32) (v : Int32) : rl_ar PC (nI 0) v = 0 := rfl
theorem pa_ar_1 (PC : Nat → Int32) (v : Int32) : rl_ar PC (nI 1) v = 0 := rfl
theorem pa_ar_2 (PC : Nat → Int32) (v : Int32) : rl_ar PC (nI 2) v = 0 := rfl
theorem pa_ar_4 (PC : Nat → Int32) (v : Int32) : rl_ar PC (nI 4) v = 1 := rfl
theorem pa_ar_5 (PC : Nat → Int32) (v : Int32) : rl_ar PC (nI 5) v = 2 := rfl
theorem pa_ar_6 (PC : Nat → Int32) (v : Int32) : rl_ar PC (nI 6) v = 2 := rfl
theorem pa_ar_7 (PC : Nat → Int32) (v : Int32) : rl_ar PC (nI 7) v = 2 := rfl
theorem pa_ar_8 (PC : Nat → Int32) (v : Int32) : rl_ar PC (nI 8) v = 2 := rfl
theorem pa_ar_9 (PC : Nat → Int32) (v : Int32) : rl_ar PC (nI 9) v = 3 := rfl
theorem pa_ar_10 (PC : Nat → Int32) (v : Int32) : rl_ar PC (nI 10) v = 2 := rfl
theorem pa_ar_11 (PC : Nat → Int32) (v : Int32) : rl_ar PC (nI 11) v = 1 := rfl
theorem pa_ar_12 (PC : Nat → Int32) (v : Int32) : rl_ar PC (nI 12) v = 0 := rfl
theorem mx_operandCount {post : Int32 → Prop} {nc : Nat} {k v : Int32} (hpar : rl_par x_parameterCount) (h : rl_tk nc k v) (hp : post (nI (rl_ar x_parameterCount k v))) : wpX_operandCount post (x_classCount, x_superCount, x_objectCount, x_draftSpecialCount, x_state, x_stepCount, x_latestValue, x_enterGeneric, x_enterPlace, x_frameCount, x_operatorCount, x_valueCount, x_lineClass, x_lineLength, x_isSealed, x_classHasSlot, x_classSlot, x_superDraft, x_objectClass, x_objectHasSlot, x_objectSlot, x_parameterCount, x_methodGeneric, x_specialiser, x_tokenKind, x_tokenValue, x_tokenCount, x_argument, x_rank, x_orderPlace, x_frameMethod, x_framePlace, x_frameToken, x_frameOperators, x_frameArgument, x_operatorKind, x_operatorValue, x_operatorLeft, x_workedOut) k v := by
  unfold wpX_operandCount
  obtain ⟨q, hq, rfl, _, h3, _⟩ := h
  have hs : q = 0 ∨ q = 1 ∨ q = 2 ∨ q = 3 ∨ q = 4 ∨ q = 5 ∨ q = 6 ∨ q = 7 ∨ q = 8 ∨ q = 9 ∨ q = 10 ∨ q = 11 ∨ q = 12 := by omega
  rcases hs with rfl | rfl | rfl | rfl | rfl | rfl | rfl | rfl | rfl | rfl | rfl | rfl | rfl
  · exact br_t (by decide) hp
  · exact br_t (by decide) hp
  · exact br_t (by decide) hp
  · obtain ⟨a, ha, rfl⟩ := h3 rfl
    obtain ⟨p, hp1, hp3, ep⟩ := hpar a ha
    have e : rl_ar x_parameterCount (nI 3) (nI a) = p := by
      show (x_parameterCount (nI a).toNatClampNeg).toNatClampNeg = p
      rw [bs_clk (by omega), ep, bs_clk (by omega)]
    rw [e, ← ep] at hp
    exact br_f (by decide) (br_f (by decide) (br_t rfl (⟨pk_in a 5 ha, by rw [bs_clk (n := a) (by omega)]; exact hp⟩)))
  · exact br_f (by decide) (br_f (by decide) (br_f (by decide) (br_t rfl (hp))))
  · exact br_f (by decide) (br_f (by decide) (br_f (by decide) (br_f (by decide) (br_t rfl (hp)))))
  · exact br_f (by decide) (br_f (by decide) (br_f (by decide) (br_f (by decide) (br_f (by decide) (br_t rfl (hp))))))
  · exact br_f (by decide) (br_f (by decide) (br_f (by decide) (br_f (by decide) (br_f (by decide) (br_f (by decide) (br_t rfl (hp)))))))
  · exact br_f (by decide) (br_f (by decide) (br_f (by decide) (br_f (by decide) (br_f (by decide) (br_f (by decide) (br_f (by decide) (br_t rfl (hp))))))))
  · exact br_f (by decide) (br_f (by decide) (br_f (by decide) (br_f (by decide) (br_f (by decide) (br_f (by decide) (br_f (by decide) (br_f (by decide) (br_t rfl (hp)))))))))
  · exact br_f (by decide) (br_f (by decide) (br_f (by decide) (br_f (by decide) (br_f (by decide) (br_f (by decide) (br_f (by decide) (br_f (by decide) (br_f (by decide) (br_t rfl (hp))))))))))
  · exact br_f (by decide) (br_f (by decide) (br_f (by decide) (br_f (by decide) (br_f (by decide) (br_f (by decide) (br_f (by decide) (br_f (by decide) (br_f (by decide) (br_f (by decide) (br_t rfl (hp)))))))))))
  · exact br_f (by decide) (br_t (by decide) hp)
theorem my_operandsOf {post : Int32 → Prop} {nc j : Nat} (hj : j < 400) (hpar : rl_par y_parameters) (h : rl_tk nc (y_kind j) (y_with j)) (hp : post (nI (rl_ar y_parameters (y_kind j) (y_with j)))) : wpY_operandsOf post (y_classes, y_supers, y_objects, y_specials, y_depth, y_ops, y_held, y_fault, y_steps, y_shownSteps, y_result, y_line, y_lineLength, y_has, y_sealed, y_initial, y_drafted, y_draftHas, y_draftInitial, y_lists, y_listLength, y_gone, y_classOfObject, y_slots, y_parameters, y_generic, y_single, y_special, y_kind, y_tokens, y_with, y_methodAt, y_pc, y_chosen, y_many, y_reached, y_opsAt, y_broken, y_arguments, y_operands, y_operator, y_got) (nI j) := by
  unfold wpY_operandsOf
  obtain ⟨q, hq, ek, _, h3, _⟩ := h
  have ej : y_kind (nI j).toNatClampNeg = nI q := by rw [bs_clk (by omega)]; exact ek
  rw [ek] at hp
  refine ⟨pk_in j 400 hj, nm_r ej ?_⟩
  have hs : q = 0 ∨ q = 1 ∨ q = 2 ∨ q = 3 ∨ q = 4 ∨ q = 5 ∨ q = 6 ∨ q = 7 ∨ q = 8 ∨ q = 9 ∨ q = 10 ∨ q = 11 ∨ q = 12 := by omega
  rcases hs with rfl | rfl | rfl | rfl | rfl | rfl | rfl | rfl | rfl | rfl | rfl | rfl | rfl
  · exact br_f (by decide) (br_f (by decide) (br_t rfl (hp)))
  · exact br_f (by decide) (br_f (by decide) (br_f (by decide) (br_t rfl (hp))))
  · exact br_f (by decide) (br_f (by decide) (br_f (by decide) (br_f (by decide) (br_t rfl (hp)))))
  · obtain ⟨a, ha, ea⟩ := h3 rfl
    obtain ⟨p, hp1, hp3, ep⟩ := hpar a ha
    have e : rl_ar y_parameters (nI 3) (y_with j) = p := by
      rw [ea]
      show (y_parameters (nI a).toNatClampNeg).toNatClampNeg = p
      rw [bs_clk (by omega), ep, bs_clk (by omega)]
    rw [e, ← ep] at hp
    have ew : y_with (nI j).toNatClampNeg = nI a := by rw [bs_clk (by omega)]; exact ea
    exact br_f (by decide) (br_f (by decide) (br_f (by decide) (br_f (by decide) (br_f (by decide) (br_t rfl (⟨pk_in j 400 hj, pk_in a 5 ha ew, by rw [ew, bs_clk (n := a) (by omega)]; exact hp⟩))))))
  · exact br_f (by decide) (br_f (by decide) (br_f (by decide) (br_f (by decide) (br_f (by decide) (br_f (by decide) (br_t rfl (hp)))))))
  · exact br_f (by decide) (br_f (by decide) (br_f (by decide) (br_f (by decide) (br_f (by decide) (br_f (by decide) (br_f (by decide) (br_t rfl (hp))))))))
  · exact br_f (by decide) (br_f (by decide) (br_f (by decide) (br_f (by decide) (br_f (by decide) (br_f (by decide) (br_f (by decide) (br_f (by decide) (br_t rfl (hp)))))))))
  · exact br_f (by decide) (br_f (by decide) (br_f (by decide) (br_f (by decide) (br_f (by decide) (br_f (by decide) (br_f (by decide) (br_f (by decide) (br_f (by decide) (br_t rfl (hp))))))))))
  · exact br_f (by decide) (br_f (by decide) (br_f (by decide) (br_f (by decide) (br_f (by decide) (br_f (by decide) (br_f (by decide) (br_f (by decide) (br_f (by decide) (br_f (by decide) (br_t rfl (hp)))))))))))
  · exact br_f (by decide) (br_f (by decide) (br_f (by decide) (br_f (by decide) (br_f (by decide) (br_f (by decide) (br_f (by decide) (br_f (by decide) (br_f (by decide) (br_f (by decide) (br_f (by decide) (br_t rfl (hp))))))))))))
  · exact br_f (by decide) (br_f (by decide) (br_f (by decide) (br_f (by decide) (br_f (by decide) (br_f (by decide) (br_f (by decide) (br_f (by decide) (br_f (by decide) (br_f (by decide) (br_f (by decide) (br_f (by decide) (br_t rfl (hp)))))))))))))
  · exact br_f (by decide) (br_f (by decide) (br_f (by decide) (br_f (by decide) (br_f (by decide) (br_f (by decide) (br_f (by decide) (br_f (by decide) (br_f (by decide) (br_f (by decide) (br_f (by decide) (br_f (by decide) (br_f (by decide) (br_t rfl (hp))))))))))))))
  · exact br_f (by decide) (br_f (by decide) (br_f (by decide) (br_f (by decide) (br_f (by decide) (br_f (by decide) (br_f (by decide) (br_f (by decide) (br_f (by decide) (br_f (by decide) (br_f (by decide) (br_f (by decide) (br_f (by decide) (br_f (by decide) (br_t rfl (hp)))))))))))))))
end
theorem pa_step {q a : Nat} : nI (q + 1) + (nI a - 1) = nI (q + a) := by
  have h : nI (q + 1) + (nI a - 1) = (nI (q + 1) - 1) + nI a := by
    rw [Int32.sub_eq_add_neg, Int32.sub_eq_add_neg, Int32.add_assoc, Int32.add_comm (nI a) (-1)]
  rw [h, nI_pred, nI_add]
section
variable {x_classCount : Int32} {x_superCount : Int32} {x_objectCount : Int32} {x_draftSpecialCount : Int32} {x_state : Int32} {x_stepCount : Int32} {x_latestValue : Int64} {x_enterGeneric : Int32} {x_enterPlace : Int32} {x_frameCount : Int32} {x_operatorCount : Int32} {x_valueCount : Int32} {x_lineClass : Nat → Int32} {x_lineLength : Nat → Int32} {x_isSealed : Nat → Int32} {x_classHasSlot : Nat → Int32} {x_classSlot : Nat → Int32} {x_superDraft : Nat → Int32} {x_objectClass : Nat → Int32} {x_objectHasSlot : Nat → Int32} {x_objectSlot : Nat → Int64} {x_parameterCount : Nat → Int32} {x_methodGeneric : Nat → Int32} {x_specialiser : Nat → Int64} {x_tokenKind : Nat → Int32} {x_tokenValue : Nat → Int32} {x_tokenCount : Nat → Int32} {x_argument : Nat → Int64} {x_rank : Nat → Int32} {x_orderPlace : Nat → Int32} {x_frameMethod : Nat → Int32} {x_framePlace : Nat → Int32} {x_frameToken : Nat → Int32} {x_frameOperators : Nat → Int32} {x_frameArgument : Nat → Int64} {x_operatorKind : Nat → Int32} {x_operatorValue : Nat → Int32} {x_operatorLeft : Nat → Int32} {x_workedOut : Nat → Int64} {y_classes : Int32} {y_supers : Int32} {y_objects : Int32} {y_specials : Int32} {y_depth : Int32} {y_ops : Int32} {y_held : Int32} {y_fault : Int32} {y_steps : Int32} {y_shownSteps : Int32} {y_result : Int64} {y_line : Nat → Int32} {y_lineLength : Nat → Int32} {y_has : Nat → Int32} {y_sealed : Nat → Int32} {y_initial : Nat → Int32} {y_drafted : Nat → Int32} {y_draftHas : Nat → Int32} {y_draftInitial : Nat → Int32} {y_lists : Nat → Int32} {y_listLength : Nat → Int32} {y_gone : Nat → Int32} {y_classOfObject : Nat → Int32} {y_slots : Nat → Int64} {y_parameters : Nat → Int32} {y_generic : Nat → Int32} {y_single : Nat → Int32} {y_special : Nat → Int64} {y_kind : Nat → Int32} {y_tokens : Nat → Int32} {y_with : Nat → Int32} {y_methodAt : Nat → Int32} {y_pc : Nat → Int32} {y_chosen : Nat → Int32} {y_many : Nat → Int32} {y_reached : Nat → Int32} {y_opsAt : Nat → Int32} {y_broken : Nat → Int32} {y_arguments : Nat → Int64} {y_operands : Nat → Int64} {y_operator : Nat → Int32} {y_got : Nat → Int32}
theorem mx_endA {post : Int32 → Prop} {nc m t : Nat} (hm : m < 25) (hpar : rl_par x_parameterCount) (ht : t ≤ 16) (et : x_tokenCount m = nI t) (hk : ∀ i, i < t → rl_tk nc (x_tokenKind (16 * m + i)) (x_tokenValue (16 * m + i))) : ∀ (s i q : Nat), 1 ≤ q → q + 3 * s < 1000 → i + s ≤ t → rl_pn (rl_am x_parameterCount x_tokenKind x_tokenValue m) s i q → post (nI (i + s)) → wX_endOfExpression_5 post (nI m) x_classCount x_superCount x_objectCount x_draftSpecialCount x_state x_stepCount x_latestValue x_enterGeneric x_enterPlace x_frameCount x_operatorCount x_valueCount x_lineClass x_lineLength x_isSealed x_classHasSlot x_classSlot x_superDraft x_objectClass x_objectHasSlot x_objectSlot x_parameterCount x_methodGeneric x_specialiser x_tokenKind x_tokenValue x_tokenCount x_argument x_rank x_orderPlace x_frameMethod x_framePlace x_frameToken x_frameOperators x_frameArgument x_operatorKind x_operatorValue x_operatorLeft x_workedOut s (nI q) (nI i) := by
  intro s
  induction s with
  | zero =>
    intro i q h1 _ _ h _
    have e : q = 0 := h
    omega
  | succ s ih =>
    rintro i q h1 hb hi ⟨k', rfl, h⟩ hp
    refine ⟨pk_in m 25 hm, ?_⟩
    rw [bs_clk (n := m) (by omega), et]
    refine br_f (nI_ge (by omega) (by omega)) (nm_r (bs_xi 16 m i) ⟨pk_in (16 * m + i) 400 (by omega), pk_in (16 * m + i) 400 (by omega), ?_⟩)
    rw [bs_clk (n := 16 * m + i) (by omega)]
    have hki := hk i (by omega)
    have h3 := pa_ar3 hpar hki
    refine mx_operandCount hpar hki (nm_r (e' := nI (k' + rl_am x_parameterCount x_tokenKind x_tokenValue m i)) pa_step ?_)
    have ha : rl_am x_parameterCount x_tokenKind x_tokenValue m i ≤ 3 := h3
    refine pk_eq (k' + rl_am x_parameterCount x_tokenKind x_tokenValue m i) 0 (fun e => ?_) (fun e => nm_r (nI_1 i) ?_)
    · rw [e] at h
      have es := pa_zero h
      subst es
      rw [nI_1]
      exact hp
    · refine ih (i + 1) _ (by omega) (by omega) (by omega) h ?_
      rw [show i + 1 + s = i + (s + 1) by omega]
      exact hp
theorem mx_endB {post : Int32 → Prop} {nc m t : Nat} (hm : m < 25) (hpar : rl_par x_parameterCount) (ht : t ≤ 16) (et : x_tokenCount m = nI t) (hk : ∀ i, i < t → rl_tk nc (x_tokenKind (16 * m + i)) (x_tokenValue (16 * m + i))) (hp : ∀ r : Int32, ¬ r = nI t → post r) : ∀ (d i q : Nat), 1 ≤ q → q + 3 * d < 1000 → i + d = t → ¬ rl_pn (rl_am x_parameterCount x_tokenKind x_tokenValue m) d i q → wX_endOfExpression_5 post (nI m) x_classCount x_superCount x_objectCount x_draftSpecialCount x_state x_stepCount x_latestValue x_enterGeneric x_enterPlace x_frameCount x_operatorCount x_valueCount x_lineClass x_lineLength x_isSealed x_classHasSlot x_classSlot x_superDraft x_objectClass x_objectHasSlot x_objectSlot x_parameterCount x_methodGeneric x_specialiser x_tokenKind x_tokenValue x_tokenCount x_argument x_rank x_orderPlace x_frameMethod x_framePlace x_frameToken x_frameOperators x_frameArgument x_operatorKind x_operatorValue x_operatorLeft x_workedOut (d + 1) (nI q) (nI i) := by
  intro d
  induction d with
  | zero =>
    intro i q h1 _ hi h
    refine ⟨pk_in m 25 hm, ?_⟩
    rw [bs_clk (n := m) (by omega), et]
    exact br_t (nI_le (by omega) (by omega)) (hp _ (fun z => bs_n1 (by omega) z.symm))
  | succ d ih =>
    intro i q h1 hb hi h
    obtain ⟨k', rfl⟩ : ∃ k', q = k' + 1 := ⟨q - 1, by omega⟩
    refine ⟨pk_in m 25 hm, ?_⟩
    rw [bs_clk (n := m) (by omega), et]
    refine br_f (nI_ge (by omega) (by omega)) (nm_r (bs_xi 16 m i) ⟨pk_in (16 * m + i) 400 (by omega), pk_in (16 * m + i) 400 (by omega), ?_⟩)
    rw [bs_clk (n := 16 * m + i) (by omega)]
    have hki := hk i (by omega)
    have h3 := pa_ar3 hpar hki
    refine mx_operandCount hpar hki (nm_r (e' := nI (k' + rl_am x_parameterCount x_tokenKind x_tokenValue m i)) pa_step ?_)
    have ha : rl_am x_parameterCount x_tokenKind x_tokenValue m i ≤ 3 := h3
    refine pk_eq (k' + rl_am x_parameterCount x_tokenKind x_tokenValue m i) 0 (fun e => ?_) (fun e => nm_r (nI_1 i) ?_)
    · rw [nI_1]
      refine hp _ (fun z => ?_)
      have ez := bs_inj (by omega) (by omega) z
      have ed : d = 0 := by omega
      subst ed
      exact h ⟨k', rfl, e⟩
    · exact ih (i + 1) _ (by omega) (by omega) (by omega) (fun z => h ⟨k', rfl, z⟩)
theorem my_endA {post : Int32 → Prop} {nc m t : Nat} (hm : m < 25) (hpar : rl_par y_parameters) (ht : t ≤ 16) (hk : ∀ i, i < t → rl_tk nc (y_kind (16 * m + i)) (y_with (16 * m + i))) : ∀ (s i q : Nat), q + 3 * s < 1000 → i + s ≤ t → rl_pn (rl_am y_parameters y_kind y_with m) s i q → post (nI (16 * m + (i + s))) → wY_endOf_5 post (nI (16 * m + t)) y_classes y_supers y_objects y_specials y_depth y_ops y_held y_fault y_steps y_shownSteps y_result y_line y_lineLength y_has y_sealed y_initial y_drafted y_draftHas y_draftInitial y_lists y_listLength y_gone y_classOfObject y_slots y_parameters y_generic y_single y_special y_kind y_tokens y_with y_methodAt y_pc y_chosen y_many y_reached y_opsAt y_broken y_arguments y_operands y_operator y_got (s + 1) (nI q) (nI (16 * m + i)) := by
  intro s
  induction s with
  | zero =>
    intro i q _ _ h hp
    have e : q = 0 := h
    subst e
    exact br_t (by decide) (br_t (by decide) hp)
  | succ s ih =>
    rintro i q hb hi ⟨k', rfl, h⟩ hp
    refine br_f (nI_nle (by omega) (by omega)) (br_f (nI_ge (by omega) (by omega)) ?_)
    have hki := hk i (by omega)
    have h3 := pa_ar3 hpar hki
    refine my_operandsOf (by omega) hpar hki (nm_r (e' := nI (k' + rl_am y_parameters y_kind y_with m i)) pa_step (nm_r (nI_1 _) ?_))
    have ha : rl_am y_parameters y_kind y_with m i ≤ 3 := h3
    refine ih (i + 1) _ (by omega) (by omega) h ?_
    rw [show i + 1 + s = i + (s + 1) by omega]
    exact hp
theorem my_endB {post : Int32 → Prop} {nc m t : Nat} (hm : m < 25) (hpar : rl_par y_parameters) (ht : t ≤ 16) (hk : ∀ i, i < t → rl_tk nc (y_kind (16 * m + i)) (y_with (16 * m + i))) (hp : ∀ r : Int32, ¬ r = nI (16 * m + t) → post r) : ∀ (d i q : Nat), q + 3 * d < 1000 → i + d = t → ¬ rl_pn (rl_am y_parameters y_kind y_with m) d i q → wY_endOf_5 post (nI (16 * m + t)) y_classes y_supers y_objects y_specials y_depth y_ops y_held y_fault y_steps y_shownSteps y_result y_line y_lineLength y_has y_sealed y_initial y_drafted y_draftHas y_draftInitial y_lists y_listLength y_gone y_classOfObject y_slots y_parameters y_generic y_single y_special y_kind y_tokens y_with y_methodAt y_pc y_chosen y_many y_reached y_opsAt y_broken y_arguments y_operands y_operator y_got (d + 1) (nI q) (nI (16 * m + i)) := by
  intro d
  induction d with
  | zero =>
    intro i q hb hi h
    have hq : 0 < q := by
      by_cases e : q = 0
      · exact absurd e h
      · omega
    refine br_f (nI_nle hq (by omega)) (br_t (nI_le (by omega) (by omega)) (br_f (nI_nle hq (by omega)) (hp _ ?_)))
    rw [nI_1]
    intro z
    have := bs_inj (by omega) (by omega) z
    omega
  | succ d ih =>
    intro i q hb hi h
    by_cases e : q = 0
    · subst e
      refine br_t (by decide) (br_t (by decide) (hp _ (fun z => ?_)))
      have := bs_inj (by omega) (by omega) z
      omega
    · obtain ⟨k', rfl⟩ : ∃ k', q = k' + 1 := ⟨q - 1, by omega⟩
      refine br_f (nI_nle (by omega) (by omega)) (br_f (nI_ge (by omega) (by omega)) ?_)
      have hki := hk i (by omega)
      have h3 := pa_ar3 hpar hki
      refine my_operandsOf (by omega) hpar hki (nm_r (e' := nI (k' + rl_am y_parameters y_kind y_with m i)) pa_step (nm_r (nI_1 _) ?_))
      have ha : rl_am y_parameters y_kind y_with m i ≤ 3 := h3
      exact ih (i + 1) _ (by omega) (by omega) (fun z => h ⟨k', rfl, z⟩)
end
end
section
/-! method -/
def me_cp (f : Nat → Int32) (b s t : Nat) : Nat → Int32 := fun j => if b ≤ j ∧ j < b + t then f (s + (j - b)) else f j
theorem me_cp_0 (f : Nat → Int32) (b s : Nat) : f = me_cp f b s 0 := by
  funext j
  exact (if_neg (by omega)).symm
theorem me_cp_n {f : Nat → Int32} {b s t j : Nat} (h : j < b ∨ b + t ≤ j) : me_cp f b s t j = f j := if_neg (by omega)
theorem me_cp_i {f : Nat → Int32} {b s t i : Nat} (h : i < t) : me_cp f b s t (b + i) = f (s + i) := by
  unfold me_cp
  rw [if_pos (by omega), show b + i - b = i by omega]
theorem me_cp_s {f : Nat → Int32} {b s i : Nat} : upd (me_cp f b s i) (b + i) (f (s + i)) = me_cp f b s (i + 1) := by
  funext j
  by_cases e : j = b + i
  · rw [e, pk_us, me_cp_i (by omega)]
  · rw [pk_un e]
    unfold me_cp
    by_cases h : b ≤ j ∧ j < b + i
    · rw [if_pos h, if_pos (by omega)]
    · rw [if_neg h, if_neg (by omega)]
def me_so (PC TK TV : Nat → Int32) (p nd t : Nat) : Prop := nd = p ∧ (∀ i, i < t → TK (384 + i) = 1 → ∃ a, a < p ∧ TV (384 + i) = nI a) ∧ rl_pn (rl_am PC TK TV 24) t 0 1
def me_sm (MG : Nat → Int32) (SP : Nat → Int64) (g nd m : Nat) : Prop := MG m = nI g ∧ ∀ k, k < nd → SP (3 * m + k) = SP (72 + k)
def me_PX (SP SP' : Nat → Int64) (m nd : Nat) : Prop := (∀ j, (j < 3 * m ∨ 3 * m + 3 ≤ j) → SP' j = SP j) ∧ ∀ k, k < nd → SP' (3 * m + k) = SP (72 + k)
def me_PY (SI SI' : Nat → Int32) (SG SG' : Nat → Int64) (m nd i : Nat) : Prop := (∀ j, (j < 3 * m ∨ 3 * m + 3 ≤ j) → SI' j = SI j ∧ SG' j = SG j) ∧ ∀ k, k < i → k < nd → SI' (3 * m + k) = SI (72 + k) ∧ SG' (3 * m + k) = SG (72 + k)
section
variable {x_classCount : Int32} {x_superCount : Int32} {x_objectCount : Int32} {x_draftSpecialCount : Int32} {x_state : Int32} {x_stepCount : Int32} {x_latestValue : Int64} {x_enterGeneric : Int32} {x_enterPlace : Int32} {x_frameCount : Int32} {x_operatorCount : Int32} {x_valueCount : Int32} {x_lineClass : Nat → Int32} {x_lineLength : Nat → Int32} {x_isSealed : Nat → Int32} {x_classHasSlot : Nat → Int32} {x_classSlot : Nat → Int32} {x_superDraft : Nat → Int32} {x_objectClass : Nat → Int32} {x_objectHasSlot : Nat → Int32} {x_objectSlot : Nat → Int64} {x_parameterCount : Nat → Int32} {x_methodGeneric : Nat → Int32} {x_specialiser : Nat → Int64} {x_tokenKind : Nat → Int32} {x_tokenValue : Nat → Int32} {x_tokenCount : Nat → Int32} {x_argument : Nat → Int64} {x_rank : Nat → Int32} {x_orderPlace : Nat → Int32} {x_frameMethod : Nat → Int32} {x_framePlace : Nat → Int32} {x_frameToken : Nat → Int32} {x_frameOperators : Nat → Int32} {x_frameArgument : Nat → Int64} {x_operatorKind : Nat → Int32} {x_operatorValue : Nat → Int32} {x_operatorLeft : Nat → Int32} {x_workedOut : Nat → Int64} {y_classes : Int32} {y_supers : Int32} {y_objects : Int32} {y_specials : Int32} {y_depth : Int32} {y_ops : Int32} {y_held : Int32} {y_fault : Int32} {y_steps : Int32} {y_shownSteps : Int32} {y_result : Int64} {y_line : Nat → Int32} {y_lineLength : Nat → Int32} {y_has : Nat → Int32} {y_sealed : Nat → Int32} {y_initial : Nat → Int32} {y_drafted : Nat → Int32} {y_draftHas : Nat → Int32} {y_draftInitial : Nat → Int32} {y_lists : Nat → Int32} {y_listLength : Nat → Int32} {y_gone : Nat → Int32} {y_classOfObject : Nat → Int32} {y_slots : Nat → Int64} {y_parameters : Nat → Int32} {y_generic : Nat → Int32} {y_single : Nat → Int32} {y_special : Nat → Int64} {y_kind : Nat → Int32} {y_tokens : Nat → Int32} {y_with : Nat → Int32} {y_methodAt : Nat → Int32} {y_pc : Nat → Int32} {y_chosen : Nat → Int32} {y_many : Nat → Int32} {y_reached : Nat → Int32} {y_opsAt : Nat → Int32} {y_broken : Nat → Int32} {y_arguments : Nat → Int64} {y_operands : Nat → Int64} {y_operator : Nat → Int32} {y_got : Nat → Int32}
theorem mx_isDraftSound {post : Int32 → Prop} {nc nd g p t : Nat} (hg : g < 5) (hnd : nd ≤ 3) (hp3 : p ≤ 3) (ep : x_parameterCount g = nI p) (hpar : rl_par x_parameterCount) (ht : t ≤ 16) (et : x_tokenCount 24 = nI t) (hk : ∀ i, i < t → rl_tk nc (x_tokenKind (16 * 24 + i)) (x_tokenValue (16 * 24 + i))) (h1 : me_so x_parameterCount x_tokenKind x_tokenValue p nd t → post 1) (h0 : ¬ me_so x_parameterCount x_tokenKind x_tokenValue p nd t → post 0) : wpX_isDraftSound post (x_classCount, x_superCount, x_objectCount, nI nd, x_state, x_stepCount, x_latestValue, x_enterGeneric, x_enterPlace, x_frameCount, x_operatorCount, x_valueCount, x_lineClass, x_lineLength, x_isSealed, x_classHasSlot, x_classSlot, x_superDraft, x_objectClass, x_objectHasSlot, x_objectSlot, x_parameterCount, x_methodGeneric, x_specialiser, x_tokenKind, x_tokenValue, x_tokenCount, x_argument, x_rank, x_orderPlace, x_frameMethod, x_framePlace, x_frameToken, x_frameOperators, x_frameArgument, x_operatorKind, x_operatorValue, x_operatorLeft, x_workedOut) (nI g) := by
  unfold wpX_isDraftSound
  refine ⟨pk_in g 5 hg, ?_⟩
  rw [bs_clk (n := g) (by omega), ep]
  refine pk_eq nd p (fun e => ?_) (fun e => h0 (fun z => e z.1))
  refine loop_0 (σ := Unit) (fun n i _ => wX_isDraftSound_17 post (nI g) x_classCount x_superCount x_objectCount (nI nd) x_state x_stepCount x_latestValue x_enterGeneric x_enterPlace x_frameCount x_operatorCount x_valueCount x_lineClass x_lineLength x_isSealed x_classHasSlot x_classSlot x_superDraft x_objectClass x_objectHasSlot x_objectSlot x_parameterCount x_methodGeneric x_specialiser x_tokenKind x_tokenValue x_tokenCount x_argument x_rank x_orderPlace x_frameMethod x_framePlace x_frameToken x_frameOperators x_frameArgument x_operatorKind x_operatorValue x_operatorLeft x_workedOut n (nI i)) (fun i _ => ∀ j, j < i → x_tokenKind (384 + j) = 1 → ∃ a, a < p ∧ x_tokenValue (384 + j) = nI a) t () lt_0 ?_ ?_
  · intro n _ hI
    unfold wX_isDraftSound_17
    rw [et]
    refine br_t (nI_le (Nat.le_refl _) (by omega)) ?_
    unfold wpX_endOfExpression
    by_cases hq : rl_pn (rl_am x_parameterCount x_tokenKind x_tokenValue 24) t 0 1
    · refine ⟨t, mx_endA (m := 24) (t := t) (by omega) hpar ht et hk t 0 1 (by omega) (by omega) (by omega) hq ?_⟩
      rw [Nat.zero_add]
      exact br_t rfl (h1 ⟨e, hI, hq⟩)
    · refine ⟨t + 1, mx_endB (m := 24) (t := t) (by omega) hpar ht et hk (fun r hr => ?_) t 0 1 (by omega) (by omega) (by omega) hq⟩
      exact br_f hr (h0 (fun z => hq z.2.2))
  · intro n i _ hi hI k
    unfold wX_isDraftSound_17
    rw [et]
    refine br_f (nI_ge hi (by omega)) (nm_r (bs_ad 384 i) ⟨pk_in (384 + i) 400 (by omega), ?_⟩)
    rw [bs_clk (n := 384 + i) (by omega), bs_clk (n := g) (by omega), ep]
    refine br_c (fun e1 => ⟨pk_in (384 + i) 400 (by omega), pk_in g 5 hg, ?_⟩) (fun ne => nm_r (nI_1 i) (k () (lt_s hI (fun z => absurd z ne))))
    obtain ⟨q, hq, eq, hq1, _⟩ := hk i hi
    have e1' : x_tokenKind (16 * 24 + i) = nI 1 := e1
    rw [e1'] at eq
    obtain ⟨a, ha, ea⟩ := hq1 (bs_inj (by omega) (by omega) eq).symm
    have ea' : x_tokenValue (384 + i) = nI a := ea
    rw [ea']
    refine pk_lt a p (fun h => nm_r (nI_1 i) (k () (lt_s hI (fun _ => ⟨a, h, ea'⟩)))) (fun h => h0 (fun z => ?_))
    obtain ⟨b, hb, eb⟩ := z.2.1 i hi e1
    rw [ea'] at eb
    have := bs_inj (by omega) (by omega) eb
    omega
theorem mx_hasDraftSpecials {post : Int32 → Prop} {nd m : Nat} (hm : m < 24) (hnd : nd ≤ 3) (h1 : (∀ k, k < nd → x_specialiser (3 * m + k) = x_specialiser (72 + k)) → post 1) (h0 : (¬ ∀ k, k < nd → x_specialiser (3 * m + k) = x_specialiser (72 + k)) → post 0) : wpX_hasDraftSpecials post (x_classCount, x_superCount, x_objectCount, nI nd, x_state, x_stepCount, x_latestValue, x_enterGeneric, x_enterPlace, x_frameCount, x_operatorCount, x_valueCount, x_lineClass, x_lineLength, x_isSealed, x_classHasSlot, x_classSlot, x_superDraft, x_objectClass, x_objectHasSlot, x_objectSlot, x_parameterCount, x_methodGeneric, x_specialiser, x_tokenKind, x_tokenValue, x_tokenCount, x_argument, x_rank, x_orderPlace, x_frameMethod, x_framePlace, x_frameToken, x_frameOperators, x_frameArgument, x_operatorKind, x_operatorValue, x_operatorLeft, x_workedOut) (nI m) := by
  unfold wpX_hasDraftSpecials
  refine loop_0 (σ := Unit) (fun n i _ => wX_hasDraftSpecials_2 post (nI m) x_classCount x_superCount x_objectCount (nI nd) x_state x_stepCount x_latestValue x_enterGeneric x_enterPlace x_frameCount x_operatorCount x_valueCount x_lineClass x_lineLength x_isSealed x_classHasSlot x_classSlot x_superDraft x_objectClass x_objectHasSlot x_objectSlot x_parameterCount x_methodGeneric x_specialiser x_tokenKind x_tokenValue x_tokenCount x_argument x_rank x_orderPlace x_frameMethod x_framePlace x_frameToken x_frameOperators x_frameArgument x_operatorKind x_operatorValue x_operatorLeft x_workedOut n (nI i)) (fun i _ => ∀ j, j < i → x_specialiser (3 * m + j) = x_specialiser (72 + j)) nd () lt_0 ?_ ?_
  · intro n _ hI
    exact br_t (nI_le (Nat.le_refl _) (by omega)) (h1 hI)
  · intro n i _ hi hI k
    refine br_f (nI_ge hi (by omega)) ⟨pk_in (3 * m + i) 75 (by omega) (bs_xi 3 m i), pk_in (72 + i) 75 (by omega) (bs_ad 72 i), ?_⟩
    rw [bs_xi 3 m i, bs_ad 72 i, bs_clk (n := 3 * m + i) (by omega), bs_clk (n := 72 + i) (by omega)]
    exact br_c (fun e => nm_r (nI_1 i) (k () (lt_s hI e))) (fun e => h0 (fun z => e (z i hi)))
theorem mx_placeForDraft {post : Int32 → Prop} {nd g : Nat} (hg : g < 5) (hnd : nd ≤ 3) (h1 : ∀ m, m < 24 → me_sm x_methodGeneric x_specialiser g nd m → post (nI m)) (h2 : (∀ m, m < 24 → ¬ me_sm x_methodGeneric x_specialiser g nd m) → ∀ f, f < 24 → x_methodGeneric f = -1 → (∀ j, j < f → ¬ x_methodGeneric j = -1) → post (nI f)) (h3 : (∀ m, m < 24 → ¬ me_sm x_methodGeneric x_specialiser g nd m) → (∀ m, m < 24 → ¬ x_methodGeneric m = -1) → post (-1)) : wpX_placeForDraft post (x_classCount, x_superCount, x_objectCount, nI nd, x_state, x_stepCount, x_latestValue, x_enterGeneric, x_enterPlace, x_frameCount, x_operatorCount, x_valueCount, x_lineClass, x_lineLength, x_isSealed, x_classHasSlot, x_classSlot, x_superDraft, x_objectClass, x_objectHasSlot, x_objectSlot, x_parameterCount, x_methodGeneric, x_specialiser, x_tokenKind, x_tokenValue, x_tokenCount, x_argument, x_rank, x_orderPlace, x_frameMethod, x_framePlace, x_frameToken, x_frameOperators, x_frameArgument, x_operatorKind, x_operatorValue, x_operatorLeft, x_workedOut) (nI g) := by
  unfold wpX_placeForDraft
  refine loop_0 (σ := Int32) (fun n i s => wX_placeForDraft_4 post (nI g) x_classCount x_superCount x_objectCount (nI nd) x_state x_stepCount x_latestValue x_enterGeneric x_enterPlace x_frameCount x_operatorCount x_valueCount x_lineClass x_lineLength x_isSealed x_classHasSlot x_classSlot x_superDraft x_objectClass x_objectHasSlot x_objectSlot x_parameterCount x_methodGeneric x_specialiser x_tokenKind x_tokenValue x_tokenCount x_argument x_rank x_orderPlace x_frameMethod x_framePlace x_frameToken x_frameOperators x_frameArgument x_operatorKind x_operatorValue x_operatorLeft x_workedOut n s (nI i)) (fun i s => (∀ j, j < i → ¬ me_sm x_methodGeneric x_specialiser g nd j) ∧ ((s = -1 ∧ ∀ j, j < i → ¬ x_methodGeneric j = -1) ∨ ∃ f, f < i ∧ s = nI f ∧ x_methodGeneric f = -1 ∧ ∀ j, j < f → ¬ x_methodGeneric j = -1)) 24 (-1) ⟨lt_0, Or.inl ⟨rfl, lt_0⟩⟩ ?_ ?_
  · rintro n s ⟨hI, (⟨rfl, h⟩ | ⟨f, hf, rfl, h, hj⟩)⟩
    · exact br_t (nI_le (Nat.le_refl _) (by omega)) (h3 hI h)
    · exact br_t (nI_le (Nat.le_refl _) (by omega)) (h2 hI f hf h hj)
  · rintro n i s hi ⟨hI, hS⟩ k
    refine br_f (nI_ge (b := 24) hi (by omega)) ⟨pk_in i 24 hi, ?_⟩
    have go : ¬ me_sm x_methodGeneric x_specialiser g nd i → wX_placeForDraft_30 post (wX_placeForDraft_4 post (nI g) x_classCount x_superCount x_objectCount (nI nd) x_state x_stepCount x_latestValue x_enterGeneric x_enterPlace x_frameCount x_operatorCount x_valueCount x_lineClass x_lineLength x_isSealed x_classHasSlot x_classSlot x_superDraft x_objectClass x_objectHasSlot x_objectSlot x_parameterCount x_methodGeneric x_specialiser x_tokenKind x_tokenValue x_tokenCount x_argument x_rank x_orderPlace x_frameMethod x_framePlace x_frameToken x_frameOperators x_frameArgument x_operatorKind x_operatorValue x_operatorLeft x_workedOut n) (nI g) s (nI i) x_classCount x_superCount x_objectCount (nI nd) x_state x_stepCount x_latestValue x_enterGeneric x_enterPlace x_frameCount x_operatorCount x_valueCount x_lineClass x_lineLength x_isSealed x_classHasSlot x_classSlot x_superDraft x_objectClass x_objectHasSlot x_objectSlot x_parameterCount x_methodGeneric x_specialiser x_tokenKind x_tokenValue x_tokenCount x_argument x_rank x_orderPlace x_frameMethod x_framePlace x_frameToken x_frameOperators x_frameArgument x_operatorKind x_operatorValue x_operatorLeft x_workedOut := by
      intro hns
      rcases hS with ⟨rfl, h⟩ | ⟨f, hf, rfl, h, hj⟩
      · refine br_t rfl ⟨pk_in i 24 hi, ?_⟩
        rw [bs_clk (n := i) (by omega)]
        refine br_c (fun e => nm_r (nI_1 i) (k (nI i) ⟨lt_s hI hns, Or.inr ⟨i, by omega, rfl, e, h⟩⟩)) (fun e => nm_r (nI_1 i) (k (-1) ⟨lt_s hI hns, Or.inl ⟨rfl, lt_s h e⟩⟩))
      · exact br_f (bs_n1 (by omega)) (nm_r (nI_1 i) (k (nI f) ⟨lt_s hI hns, Or.inr ⟨f, by omega, rfl, h, hj⟩⟩))
    refine br_c (fun e => ?_) (fun e => go (fun z => e (by rw [bs_clk (n := i) (by omega)]; exact z.1)))
    have e' : x_methodGeneric i = nI g := by rw [bs_clk (n := i) (by omega)] at e; exact e
    exact mx_hasDraftSpecials hi hnd (fun h => br_f (by decide) (h1 i hi ⟨e', h⟩)) (fun h => br_t rfl (go (fun z => h z.2)))
theorem mx_copyDraft {post : SX → Prop} {nc nd g m t : Nat} (hg : g < 5) (hm : m < 24) (hnd : nd ≤ 3) (ht : t ≤ 16) (et : x_tokenCount 24 = nI t) (hp : ∀ SP' : Nat → Int64, me_PX x_specialiser SP' m nd → post (x_classCount, x_superCount, x_objectCount, nI nd, x_state, x_stepCount, x_latestValue, x_enterGeneric, x_enterPlace, x_frameCount, x_operatorCount, x_valueCount, x_lineClass, x_lineLength, x_isSealed, x_classHasSlot, x_classSlot, x_superDraft, x_objectClass, x_objectHasSlot, x_objectSlot, x_parameterCount, upd x_methodGeneric m (nI g), SP', me_cp x_tokenKind (16 * m) 384 t, me_cp x_tokenValue (16 * m) 384 t, upd x_tokenCount m (nI t), x_argument, x_rank, x_orderPlace, x_frameMethod, x_framePlace, x_frameToken, x_frameOperators, x_frameArgument, x_operatorKind, x_operatorValue, x_operatorLeft, x_workedOut)) : wpX_copyDraft post (x_classCount, x_superCount, x_objectCount, nI nd, x_state, x_stepCount, x_latestValue, x_enterGeneric, x_enterPlace, x_frameCount, x_operatorCount, x_valueCount, x_lineClass, x_lineLength, x_isSealed, x_classHasSlot, x_classSlot, x_superDraft, x_objectClass, x_objectHasSlot, x_objectSlot, x_parameterCount, x_methodGeneric, x_specialiser, x_tokenKind, x_tokenValue, x_tokenCount, x_argument, x_rank, x_orderPlace, x_frameMethod, x_framePlace, x_frameToken, x_frameOperators, x_frameArgument, x_operatorKind, x_operatorValue, x_operatorLeft, x_workedOut) (nI m) (nI g) := by
  unfold wpX_copyDraft
  refine ⟨pk_in m 24 hm, nm_r (e' := upd x_methodGeneric m (nI g)) (by rw [bs_clk (by omega)]) ?_⟩
  refine loop_0 (σ := Nat → Int64) (fun n i s => wX_copyDraft_9 post (nI m) x_classCount x_superCount x_objectCount (nI nd) x_state x_stepCount x_latestValue x_enterGeneric x_enterPlace x_frameCount x_operatorCount x_valueCount n (nI i) x_lineClass x_lineLength x_isSealed x_classHasSlot x_classSlot x_superDraft x_objectClass x_objectHasSlot x_objectSlot x_parameterCount (upd x_methodGeneric m (nI g)) s x_tokenKind x_tokenValue x_tokenCount x_argument x_rank x_orderPlace x_frameMethod x_framePlace x_frameToken x_frameOperators x_frameArgument x_operatorKind x_operatorValue x_operatorLeft x_workedOut) (fun i s => me_PX x_specialiser s m i) nd x_specialiser ⟨fun _ _ => rfl, lt_0⟩ ?_ ?_
  · intro n s hI
    refine br_t (nI_le (Nat.le_refl _) (by omega)) ⟨pk_in m 25 (by omega), nm_r (e' := upd x_tokenCount m (nI t)) (by rw [bs_clk (by omega), et]) ?_⟩
    have et' : upd x_tokenCount m (nI t) 24 = nI t := by rw [pk_un (by omega)]; exact et
    refine loop_0 (σ := (Nat → Int32) × (Nat → Int32)) (fun n i s2 => wX_copyDraft_57 post (nI m) x_classCount x_superCount x_objectCount (nI nd) x_state x_stepCount x_latestValue x_enterGeneric x_enterPlace x_frameCount x_operatorCount x_valueCount n (nI i) x_lineClass x_lineLength x_isSealed x_classHasSlot x_classSlot x_superDraft x_objectClass x_objectHasSlot x_objectSlot x_parameterCount (upd x_methodGeneric m (nI g)) s s2.1 s2.2 (upd x_tokenCount m (nI t)) x_argument x_rank x_orderPlace x_frameMethod x_framePlace x_frameToken x_frameOperators x_frameArgument x_operatorKind x_operatorValue x_operatorLeft x_workedOut) (fun i s2 => s2 = (me_cp x_tokenKind (16 * m) 384 i, me_cp x_tokenValue (16 * m) 384 i)) t (x_tokenKind, x_tokenValue) (by rw [← me_cp_0, ← me_cp_0]) ?_ ?_
    · rintro n s2 rfl
      unfold wX_copyDraft_57
      rw [et']
      exact br_t (nI_le (Nat.le_refl _) (by omega)) (hp s hI)
    · rintro n i s2 hi rfl k
      unfold wX_copyDraft_57
      rw [et']
      refine br_f (nI_ge hi (by omega)) ⟨pk_in (384 + i) 400 (by omega) (bs_ad 384 i), pk_in (16 * m + i) 400 (by omega) (bs_xi 16 m i), nm_r (e' := me_cp x_tokenKind (16 * m) 384 (i + 1)) ?_ ⟨pk_in (384 + i) 400 (by omega) (bs_ad 384 i), pk_in (16 * m + i) 400 (by omega) (bs_xi 16 m i), nm_r (e' := me_cp x_tokenValue (16 * m) 384 (i + 1)) ?_ (nm_r (nI_1 i) (k _ rfl))⟩⟩
      · dsimp only
        rw [bs_xi 16 m i, bs_ad 384 i, bs_clk (by omega), bs_clk (by omega), me_cp_n (j := 384 + i) (by omega), me_cp_s]
      · dsimp only
        rw [bs_xi 16 m i, bs_ad 384 i, bs_clk (by omega), bs_clk (by omega), me_cp_n (j := 384 + i) (by omega), me_cp_s]
  · intro n i s hi hI k
    refine br_f (nI_ge hi (by omega)) ⟨pk_in (72 + i) 75 (by omega) (bs_ad 72 i), pk_in (3 * m + i) 75 (by omega) (bs_xi 3 m i), nm_r (e' := vp_updL s (3 * m + i) (x_specialiser (72 + i))) ?_ (nm_r (nI_1 i) (k (vp_updL s (3 * m + i) (x_specialiser (72 + i))) ⟨fun j hj => ?_, fun q hq => ?_⟩))⟩
    · rw [bs_xi 3 m i, bs_ad 72 i, bs_clk (by omega), bs_clk (by omega), hI.1 (72 + i) (by omega)]
    · rw [pk_uLn (by omega)]; exact hI.1 j hj
    · by_cases e : q = i
      · rw [e, pk_uLs]
      · rw [pk_uLn (by omega)]; exact hI.2 q (by omega)
end
theorem me_vne {nc no : Nat} {c : Nat} {v : Int64} (hno : no ≤ 20) (hc : c < 16) (hv : rl_val no v) : ¬ lN (8589934592 + c) = v := by
  rintro rfl
  rcases hv with hi | ⟨q, hq, e⟩
  · have h1 := cl_il hi
    rw [ob_K, pk_lLT (by omega) (by omega)] at h1
    omega
  · exact cl_c c q hc (by omega) e
theorem me_eq {nc no : Nat} (hnc : nc ≤ 16) (hno : no ≤ 20) {sp sp' sg sg' : Int64} {si si' : Int32} (h : rl_sp nc no sp si sg) (h' : rl_sp nc no sp' si' sg') : sp = sp' ↔ (si = si' ∧ sg = sg') := by
  rcases h with ⟨rfl, c, hc, rfl, rfl⟩ | ⟨rfl, rfl, hv⟩
  · rcases h' with ⟨rfl, c', hc', rfl, rfl⟩ | ⟨rfl, rfl, hv'⟩
    · rw [pk_lEQ (by omega) (by omega), pk_lEQ (by omega) (by omega)]
      constructor
      · intro z; exact ⟨rfl, by omega⟩
      · rintro ⟨_, z⟩; omega
    · exact ⟨fun z => absurd z (me_vne (nc := nc) hno (by omega) hv'), fun z => absurd z.1 (by decide)⟩
  · rcases h' with ⟨rfl, c', hc', rfl, rfl⟩ | ⟨rfl, rfl, hv'⟩
    · exact ⟨fun z => absurd z.symm (me_vne (nc := nc) hno (by omega) hv), fun z => absurd z.1 (by decide)⟩
    · exact ⟨fun z => ⟨rfl, z⟩, fun z => z.2⟩
end
section
/-! method: the reference, and both -/
section
variable {y_classes : Int32} {y_supers : Int32} {y_objects : Int32} {y_specials : Int32} {y_depth : Int32} {y_ops : Int32} {y_held : Int32} {y_fault : Int32} {y_steps : Int32} {y_shownSteps : Int32} {y_result : Int64} {y_line : Nat → Int32} {y_lineLength : Nat → Int32} {y_has : Nat → Int32} {y_sealed : Nat → Int32} {y_initial : Nat → Int32} {y_drafted : Nat → Int32} {y_draftHas : Nat → Int32} {y_draftInitial : Nat → Int32} {y_lists : Nat → Int32} {y_listLength : Nat → Int32} {y_gone : Nat → Int32} {y_classOfObject : Nat → Int32} {y_slots : Nat → Int64} {y_parameters : Nat → Int32} {y_generic : Nat → Int32} {y_single : Nat → Int32} {y_special : Nat → Int64} {y_kind : Nat → Int32} {y_tokens : Nat → Int32} {y_with : Nat → Int32} {y_methodAt : Nat → Int32} {y_pc : Nat → Int32} {y_chosen : Nat → Int32} {y_many : Nat → Int32} {y_reached : Nat → Int32} {y_opsAt : Nat → Int32} {y_broken : Nat → Int32} {y_arguments : Nat → Int64} {y_operands : Nat → Int64} {y_operator : Nat → Int32} {y_got : Nat → Int32}
theorem my_same {post : Int32 → Prop} {nc no p g m : Nat} {SP : Nat → Int64} (hnc : nc ≤ 16) (hno : no ≤ 20) (hm : m < 24) (hg : g < 5) (hp3 : p ≤ 3) (eg : y_generic m = nI g) (ep : y_parameters g = nI p) (hs : ∀ k, k < p → rl_sp nc no (SP (3 * m + k)) (y_single (3 * m + k)) (y_special (3 * m + k))) (hd : ∀ k, k < p → rl_sp nc no (SP (72 + k)) (y_single (72 + k)) (y_special (72 + k))) (h1 : (∀ k, k < p → SP (3 * m + k) = SP (72 + k)) → post 1) (h0 : (¬ ∀ k, k < p → SP (3 * m + k) = SP (72 + k)) → post 0) : wpY_same post (y_classes, y_supers, y_objects, y_specials, y_depth, y_ops, y_held, y_fault, y_steps, y_shownSteps, y_result, y_line, y_lineLength, y_has, y_sealed, y_initial, y_drafted, y_draftHas, y_draftInitial, y_lists, y_listLength, y_gone, y_classOfObject, y_slots, y_parameters, y_generic, y_single, y_special, y_kind, y_tokens, y_with, y_methodAt, y_pc, y_chosen, y_many, y_reached, y_opsAt, y_broken, y_arguments, y_operands, y_operator, y_got) (nI m) := by
  unfold wpY_same
  have em : y_generic (nI m).toNatClampNeg = nI g := by rw [bs_clk (by omega)]; exact eg
  refine ⟨pk_in m 24 hm, pk_in g 5 hg em, nm_r (e' := nI p) (by rw [em, bs_clk (by omega), ep]) ?_⟩
  refine loop_0 (σ := Unit) (fun n i _ => wY_same_14 post (nI m) (nI p) y_classes y_supers y_objects y_specials y_depth y_ops y_held y_fault y_steps y_shownSteps y_result y_line y_lineLength y_has y_sealed y_initial y_drafted y_draftHas y_draftInitial y_lists y_listLength y_gone y_classOfObject y_slots y_parameters y_generic y_single y_special y_kind y_tokens y_with y_methodAt y_pc y_chosen y_many y_reached y_opsAt y_broken y_arguments y_operands y_operator y_got n (nI i)) (fun i _ => ∀ j, j < i → SP (3 * m + j) = SP (72 + j)) p () lt_0 ?_ ?_
  · intro n _ hI
    exact br_t (nI_le (Nat.le_refl _) (by omega)) (h1 hI)
  · intro n i _ hi hI k
    have he := me_eq hnc hno (hs i hi) (hd i hi)
    refine br_f (nI_ge hi (by omega)) ⟨pk_in (3 * m + i) 75 (by omega) (bs_ix 3 m i), pk_in (72 + i) 75 (by omega) (bs_ad 72 i), ?_⟩
    rw [bs_ix 3 m i, bs_ad 72 i, bs_clk (n := 3 * m + i) (by omega), bs_clk (n := 72 + i) (by omega)]
    refine br_c (fun e => ⟨pk_in (3 * m + i) 75 (by omega), pk_in (72 + i) 75 (by omega), br_c (fun e2 => nm_r (nI_1 i) (k () (lt_s hI (he.mpr ⟨e, e2⟩)))) (fun e2 => h0 (fun z => e2 (he.mp (z i hi)).2))⟩) (fun e => h0 (fun z => e (he.mp (z i hi)).1))
theorem my_mfin {post : Int32 → SY → Prop} {nc nd g m t : Nat} (hg : g < 5) (hm : m < 24) (ht : t ≤ 16) (hk : ∀ i, i < t → rl_tk nc (y_kind (16 * 24 + i)) (y_with (16 * 24 + i))) (hz : ∀ k, k < nd → y_single (72 + k) = 0 ∨ y_single (72 + k) = 1) (hp : ∀ (SI' : Nat → Int32) (SG' : Nat → Int64), me_PY y_single SI' y_special SG' m nd 3 → post (nI m) (y_classes, y_supers, y_objects, y_specials, y_depth, y_ops, y_held, y_fault, y_steps, y_shownSteps, y_result, y_line, y_lineLength, y_has, y_sealed, y_initial, y_drafted, y_draftHas, y_draftInitial, y_lists, y_listLength, y_gone, y_classOfObject, y_slots, y_parameters, upd y_generic m (nI g), SI', SG', me_cp y_kind (16 * m) 384 t, upd y_tokens m (nI t), me_cp y_with (16 * m) 384 t, y_methodAt, y_pc, y_chosen, y_many, y_reached, y_opsAt, y_broken, y_arguments, y_operands, y_operator, y_got)) : ((0 ≤ nI m → (vp_in (nI m) 24 ∧ ∀ a_generic_14 : Nat → Int32, a_generic_14 = upd y_generic (nI m).toNatClampNeg (vp_nar .byte (nI g).toInt8.toInt32) → (∃ n225 : Nat, wY_method_225 post (nI t) (nI m) y_classes y_supers y_objects y_specials y_depth y_ops y_held y_fault y_steps y_shownSteps y_result n225 0 y_line y_lineLength y_has y_sealed y_initial y_drafted y_draftHas y_draftInitial y_lists y_listLength y_gone y_classOfObject y_slots y_parameters a_generic_14 y_single y_special y_kind y_tokens y_with y_methodAt y_pc y_chosen y_many y_reached y_opsAt y_broken y_arguments y_operands y_operator y_got))) ∧ (¬ 0 ≤ nI m → (post 8 (y_classes, y_supers, y_objects, y_specials, y_depth, y_ops, y_held, y_fault, y_steps, y_shownSteps, y_result, y_line, y_lineLength, y_has, y_sealed, y_initial, y_drafted, y_draftHas, y_draftInitial, y_lists, y_listLength, y_gone, y_classOfObject, y_slots, y_parameters, y_generic, y_single, y_special, y_kind, y_tokens, y_with, y_methodAt, y_pc, y_chosen, y_many, y_reached, y_opsAt, y_broken, y_arguments, y_operands, y_operator, y_got)))) := by
  refine br_t (bs_ge0 (by omega)) ⟨pk_in m 24 hm, nm_r (e' := upd y_generic m (nI g)) (by rw [bs_clk (by omega), bs_vb8 (by omega)]) ?_⟩
  refine loop_0 (σ := (Nat → Int32) × (Nat → Int64)) (fun n i s => wY_method_225 post (nI t) (nI m) y_classes y_supers y_objects y_specials y_depth y_ops y_held y_fault y_steps y_shownSteps y_result n (nI i) y_line y_lineLength y_has y_sealed y_initial y_drafted y_draftHas y_draftInitial y_lists y_listLength y_gone y_classOfObject y_slots y_parameters (upd y_generic m (nI g)) s.1 s.2 y_kind y_tokens y_with y_methodAt y_pc y_chosen y_many y_reached y_opsAt y_broken y_arguments y_operands y_operator y_got) (fun i s => me_PY y_single s.1 y_special s.2 m nd i) 3 (y_single, y_special) ⟨fun _ _ => ⟨rfl, rfl⟩, lt_0⟩ ?_ ?_
  · intro n s hI
    refine br_t (nI_le (Nat.le_refl _) (by omega)) ?_
    refine loop_0 (σ := (Nat → Int32) × (Nat → Int32)) (fun n i s2 => wY_method_284 post (nI t) (nI m) y_classes y_supers y_objects y_specials y_depth y_ops y_held y_fault y_steps y_shownSteps y_result n (nI i) y_line y_lineLength y_has y_sealed y_initial y_drafted y_draftHas y_draftInitial y_lists y_listLength y_gone y_classOfObject y_slots y_parameters (upd y_generic m (nI g)) s.1 s.2 s2.1 y_tokens s2.2 y_methodAt y_pc y_chosen y_many y_reached y_opsAt y_broken y_arguments y_operands y_operator y_got) (fun i s2 => s2 = (me_cp y_kind (16 * m) 384 i, me_cp y_with (16 * m) 384 i)) t (y_kind, y_with) (by rw [← me_cp_0, ← me_cp_0]) ?_ ?_
    · rintro n s2 rfl
      refine br_t (nI_le (Nat.le_refl _) (by omega)) ⟨pk_in m 25 (by omega), nm_r (e' := upd y_tokens m (nI t)) (by rw [bs_clk (by omega), bs_vb8 (by omega)]) (hp s.1 s.2 hI)⟩
    · rintro n i s2 hi rfl k
      obtain ⟨q, hq, eq, _⟩ := hk i hi
      have eq' : y_kind (384 + i) = nI q := eq
      refine br_f (nI_ge hi (by omega)) ⟨pk_in (384 + i) 400 (by omega) (bs_ad 384 i), pk_in (16 * m + i) 400 (by omega) (bs_ix 16 m i), nm_r (e' := me_cp y_kind (16 * m) 384 (i + 1)) ?_ ⟨pk_in (384 + i) 400 (by omega) (bs_ad 384 i), pk_in (16 * m + i) 400 (by omega) (bs_ix 16 m i), nm_r (e' := me_cp y_with (16 * m) 384 (i + 1)) ?_ (nm_r (nI_1 i) (k _ rfl))⟩⟩
      · dsimp only
        rw [bs_ix 16 m i, bs_ad 384 i, bs_clk (by omega), bs_clk (by omega), me_cp_n (j := 384 + i) (by omega), eq', bs_vb (by omega), ← eq', me_cp_s]
      · dsimp only
        rw [bs_ix 16 m i, bs_ad 384 i, bs_clk (by omega), bs_clk (by omega), me_cp_n (j := 384 + i) (by omega), me_cp_s]
  · intro n i s hi hI k
    refine br_f (nI_ge (b := 3) hi (by omega)) ⟨pk_in (72 + i) 75 (by omega) (bs_ad 72 i), pk_in (3 * m + i) 75 (by omega) (bs_ix 3 m i), nm_r (e' := upd s.1 (3 * m + i) (vp_nar .boolean (y_single (72 + i)))) ?_ ⟨pk_in (72 + i) 75 (by omega) (bs_ad 72 i), pk_in (3 * m + i) 75 (by omega) (bs_ix 3 m i), nm_r (e' := vp_updL s.2 (3 * m + i) (y_special (72 + i))) ?_ (nm_r (nI_1 i) (k (upd s.1 (3 * m + i) (vp_nar .boolean (y_single (72 + i))), vp_updL s.2 (3 * m + i) (y_special (72 + i))) ⟨fun j hj => ?_, fun q hq hqd => ?_⟩))⟩⟩
    · rw [bs_ix 3 m i, bs_ad 72 i, bs_clk (by omega), bs_clk (by omega), (hI.1 (72 + i) (by omega)).1]
    · rw [bs_ix 3 m i, bs_ad 72 i, bs_clk (by omega), bs_clk (by omega), (hI.1 (72 + i) (by omega)).2]
    · dsimp only
      rw [pk_un (by omega), pk_uLn (by omega)]; exact hI.1 j hj
    · dsimp only
      by_cases e : q = i
      · rw [e, pk_us, pk_uLs, bs_z (hz i (by omega))]; exact ⟨rfl, rfl⟩
      · rw [pk_un (by omega), pk_uLn (by omega)]; exact hI.2 q (by omega) hqd
theorem my_m168 {post : Int32 → SY → Prop} {nc no p g t : Nat} {SP : Nat → Int64} {at0 : Int32} (hnc : nc ≤ 16) (hno : no ≤ 20) (hg : g < 5) (hp3 : p ≤ 3) (ep : y_parameters g = nI p) (hs : ∀ m, m < 24 → y_generic m = nI g → ∀ k, k < p → rl_sp nc no (SP (3 * m + k)) (y_single (3 * m + k)) (y_special (3 * m + k))) (hd : ∀ k, k < p → rl_sp nc no (SP (72 + k)) (y_single (72 + k)) (y_special (72 + k)))
    (h1 : ∀ m, m < 24 → me_sm y_generic SP g p m → ((0 ≤ nI m → (vp_in (nI m) 24 ∧ ∀ a_generic_14 : Nat → Int32, a_generic_14 = upd y_generic (nI m).toNatClampNeg (vp_nar .byte (nI g).toInt8.toInt32) → (∃ n225 : Nat, wY_method_225 post (nI t) (nI m) y_classes y_supers y_objects y_specials y_depth y_ops y_held y_fault y_steps y_shownSteps y_result n225 0 y_line y_lineLength y_has y_sealed y_initial y_drafted y_draftHas y_draftInitial y_lists y_listLength y_gone y_classOfObject y_slots y_parameters a_generic_14 y_single y_special y_kind y_tokens y_with y_methodAt y_pc y_chosen y_many y_reached y_opsAt y_broken y_arguments y_operands y_operator y_got))) ∧ (¬ 0 ≤ nI m → (post 8 (y_classes, y_supers, y_objects, y_specials, y_depth, y_ops, y_held, y_fault, y_steps, y_shownSteps, y_result, y_line, y_lineLength, y_has, y_sealed, y_initial, y_drafted, y_draftHas, y_draftInitial, y_lists, y_listLength, y_gone, y_classOfObject, y_slots, y_parameters, y_generic, y_single, y_special, y_kind, y_tokens, y_with, y_methodAt, y_pc, y_chosen, y_many, y_reached, y_opsAt, y_broken, y_arguments, y_operands, y_operator, y_got)))))
    (h2 : (∀ m, m < 24 → ¬ me_sm y_generic SP g p m) → ((0 ≤ at0 → (vp_in at0 24 ∧ ∀ a_generic_14 : Nat → Int32, a_generic_14 = upd y_generic at0.toNatClampNeg (vp_nar .byte (nI g).toInt8.toInt32) → (∃ n225 : Nat, wY_method_225 post (nI t) at0 y_classes y_supers y_objects y_specials y_depth y_ops y_held y_fault y_steps y_shownSteps y_result n225 0 y_line y_lineLength y_has y_sealed y_initial y_drafted y_draftHas y_draftInitial y_lists y_listLength y_gone y_classOfObject y_slots y_parameters a_generic_14 y_single y_special y_kind y_tokens y_with y_methodAt y_pc y_chosen y_many y_reached y_opsAt y_broken y_arguments y_operands y_operator y_got))) ∧ (¬ 0 ≤ at0 → (post 8 (y_classes, y_supers, y_objects, y_specials, y_depth, y_ops, y_held, y_fault, y_steps, y_shownSteps, y_result, y_line, y_lineLength, y_has, y_sealed, y_initial, y_drafted, y_draftHas, y_draftInitial, y_lists, y_listLength, y_gone, y_classOfObject, y_slots, y_parameters, y_generic, y_single, y_special, y_kind, y_tokens, y_with, y_methodAt, y_pc, y_chosen, y_many, y_reached, y_opsAt, y_broken, y_arguments, y_operands, y_operator, y_got))))) : ∃ n, wY_method_168 post (nI g) (nI t) y_classes y_supers y_objects y_specials y_depth y_ops y_held y_fault y_steps y_shownSteps y_result y_line y_lineLength y_has y_sealed y_initial y_drafted y_draftHas y_draftInitial y_lists y_listLength y_gone y_classOfObject y_slots y_parameters y_generic y_single y_special y_kind y_tokens y_with y_methodAt y_pc y_chosen y_many y_reached y_opsAt y_broken y_arguments y_operands y_operator y_got n at0 0 := by
  refine loop_0 (σ := Int32) (fun n i s => wY_method_168 post (nI g) (nI t) y_classes y_supers y_objects y_specials y_depth y_ops y_held y_fault y_steps y_shownSteps y_result y_line y_lineLength y_has y_sealed y_initial y_drafted y_draftHas y_draftInitial y_lists y_listLength y_gone y_classOfObject y_slots y_parameters y_generic y_single y_special y_kind y_tokens y_with y_methodAt y_pc y_chosen y_many y_reached y_opsAt y_broken y_arguments y_operands y_operator y_got n s (nI i)) (fun i s => (s = at0 ∧ ∀ j, j < i → ¬ me_sm y_generic SP g p j) ∨ ∃ m, m < i ∧ me_sm y_generic SP g p m ∧ s = nI m) 24 at0 (Or.inl ⟨rfl, lt_0⟩) ?_ ?_
  · rintro n s (⟨rfl, h⟩ | ⟨m, hm, h, rfl⟩)
    · exact br_t (nI_le (Nat.le_refl _) (by omega)) (h2 h)
    · exact br_t (nI_le (Nat.le_refl _) (by omega)) (h1 m hm h)
  · intro n i s hi hI k
    refine br_f (nI_ge (b := 24) hi (by omega)) ⟨pk_in i 24 hi, ?_⟩
    have keep : ¬ me_sm y_generic SP g p i → wY_method_168 post (nI g) (nI t) y_classes y_supers y_objects y_specials y_depth y_ops y_held y_fault y_steps y_shownSteps y_result y_line y_lineLength y_has y_sealed y_initial y_drafted y_draftHas y_draftInitial y_lists y_listLength y_gone y_classOfObject y_slots y_parameters y_generic y_single y_special y_kind y_tokens y_with y_methodAt y_pc y_chosen y_many y_reached y_opsAt y_broken y_arguments y_operands y_operator y_got n s (nI (i + 1)) := by
      intro hn
      refine k s ?_
      rcases hI with ⟨e, h⟩ | ⟨m, hm, h, e⟩
      · exact Or.inl ⟨e, lt_s h hn⟩
      · exact Or.inr ⟨m, by omega, h, e⟩
    rw [bs_clk (n := i) (by omega)]
    refine br_c (fun e => ?_) (fun e => nm_r (nI_1 i) (keep (fun z => e z.1)))
    exact my_same hnc hno hi hg hp3 e ep (hs i hi e) hd (fun h => br_f (by decide) (nm_r (nI_1 i) (k (nI i) (Or.inr ⟨i, by omega, ⟨e, h⟩, rfl⟩)))) (fun h => br_t rfl (nm_r (nI_1 i) (keep (fun z => h z.2))))
theorem my_m140 {post : Int32 → SY → Prop} {x1 x2 : Int32} (hgen : rl_gen y_generic) (hf : ∀ f, f < 24 → y_generic f = -1 → (∀ j, j < f → ¬ y_generic j = -1) → ∃ n, wY_method_168 post x1 x2 y_classes y_supers y_objects y_specials y_depth y_ops y_held y_fault y_steps y_shownSteps y_result y_line y_lineLength y_has y_sealed y_initial y_drafted y_draftHas y_draftInitial y_lists y_listLength y_gone y_classOfObject y_slots y_parameters y_generic y_single y_special y_kind y_tokens y_with y_methodAt y_pc y_chosen y_many y_reached y_opsAt y_broken y_arguments y_operands y_operator y_got n (nI f) 0) (hz : (∀ j, j < 24 → ¬ y_generic j = -1) → ∃ n, wY_method_168 post x1 x2 y_classes y_supers y_objects y_specials y_depth y_ops y_held y_fault y_steps y_shownSteps y_result y_line y_lineLength y_has y_sealed y_initial y_drafted y_draftHas y_draftInitial y_lists y_listLength y_gone y_classOfObject y_slots y_parameters y_generic y_single y_special y_kind y_tokens y_with y_methodAt y_pc y_chosen y_many y_reached y_opsAt y_broken y_arguments y_operands y_operator y_got n (-1) 0) : ∃ n, wY_method_140 post x1 x2 y_classes y_supers y_objects y_specials y_depth y_ops y_held y_fault y_steps y_shownSteps y_result y_line y_lineLength y_has y_sealed y_initial y_drafted y_draftHas y_draftInitial y_lists y_listLength y_gone y_classOfObject y_slots y_parameters y_generic y_single y_special y_kind y_tokens y_with y_methodAt y_pc y_chosen y_many y_reached y_opsAt y_broken y_arguments y_operands y_operator y_got n (-1) 23 := by
  have key : ∀ i, i ≤ 24 → ∀ s : Int32, ((s = -1 ∧ ∀ j, i ≤ j → j < 24 → ¬ y_generic j = -1) ∨ ∃ f, i ≤ f ∧ f < 24 ∧ s = nI f ∧ y_generic f = -1 ∧ ∀ j, i ≤ j → j < f → ¬ y_generic j = -1) → wY_method_140 post x1 x2 y_classes y_supers y_objects y_specials y_depth y_ops y_held y_fault y_steps y_shownSteps y_result y_line y_lineLength y_has y_sealed y_initial y_drafted y_draftHas y_draftInitial y_lists y_listLength y_gone y_classOfObject y_slots y_parameters y_generic y_single y_special y_kind y_tokens y_with y_methodAt y_pc y_chosen y_many y_reached y_opsAt y_broken y_arguments y_operands y_operator y_got (i + 1) s (nI i + (-1)) := by
    intro i
    induction i with
    | zero =>
      rintro _ s (⟨rfl, h⟩ | ⟨f, _, hf2, rfl, h, hj⟩)
      · exact br_t (by decide) (hz (fun j hj => h j (Nat.zero_le _) hj))
      · exact br_t (by decide) (hf f hf2 h (fun j hj' => hj j (Nat.zero_le _) hj'))
    | succ i ih =>
      intro hi s hS
      rw [pk_m1]
      refine br_f (nI_pos (by omega)) ⟨pk_in i 24 (by omega), ?_⟩
      rw [bs_clk (n := i) (by omega)]
      rcases hgen i (by omega) with e | ⟨g, hg, e⟩
      · rw [e]
        refine br_f (by decide) (nm_e (ih (by omega) (nI i) (Or.inr ⟨i, Nat.le_refl _, by omega, rfl, e, fun j h1 h2 => by omega⟩)))
      · rw [e]
        refine br_t (bs_ge0 (by omega)) (nm_e (ih (by omega) s ?_))
        have hne : ¬ y_generic i = -1 := by rw [e]; exact bs_n1 (by omega)
        rcases hS with ⟨e1, h⟩ | ⟨f, h1, h2, e1, h3, h4⟩
        · refine Or.inl ⟨e1, fun j hj hj2 => ?_⟩
          by_cases ej : j = i
          · rw [ej]; exact hne
          · exact h j (by omega) hj2
        · refine Or.inr ⟨f, by omega, h2, e1, h3, fun j hj hj2 => ?_⟩
          by_cases ej : j = i
          · rw [ej]; exact hne
          · exact h4 j (by omega) hj2
  refine ⟨25, ?_⟩
  have h := key 24 (Nat.le_refl _) (-1) (Or.inl ⟨rfl, fun j h1 h2 => by omega⟩)
  rw [pk_m1 23] at h
  exact h
theorem my_m79 {post : Int32 → SY → Prop} {nc g p nd t : Nat} {s0 : Int32} (hg : g < 5) (hp3 : p ≤ 3) (ht : t ≤ 16) (ep : y_parameters g = nI p) (hk : ∀ i, i < t → rl_tk nc (y_kind (16 * 24 + i)) (y_with (16 * 24 + i))) (hs0 : (s0 = 1 ∧ nd = p ∧ rl_pn (rl_am y_parameters y_kind y_with 24) t 0 1) ∨ (s0 = 0 ∧ ¬ me_so y_parameters y_kind y_with p nd t)) (h1 : me_so y_parameters y_kind y_with p nd t → ∃ n, wY_method_140 post (nI g) (nI t) y_classes y_supers y_objects y_specials y_depth y_ops y_held y_fault y_steps y_shownSteps y_result y_line y_lineLength y_has y_sealed y_initial y_drafted y_draftHas y_draftInitial y_lists y_listLength y_gone y_classOfObject y_slots y_parameters y_generic y_single y_special y_kind y_tokens y_with y_methodAt y_pc y_chosen y_many y_reached y_opsAt y_broken y_arguments y_operands y_operator y_got n (-1) 23) (h0 : ¬ me_so y_parameters y_kind y_with p nd t → post (-4) (y_classes, y_supers, y_objects, y_specials, y_depth, y_ops, y_held, y_fault, y_steps, y_shownSteps, y_result, y_line, y_lineLength, y_has, y_sealed, y_initial, y_drafted, y_draftHas, y_draftInitial, y_lists, y_listLength, y_gone, y_classOfObject, y_slots, y_parameters, y_generic, y_single, y_special, y_kind, y_tokens, y_with, y_methodAt, y_pc, y_chosen, y_many, y_reached, y_opsAt, y_broken, y_arguments, y_operands, y_operator, y_got)) : ∃ n, wY_method_79 post (nI g) (nI t) y_classes y_supers y_objects y_specials y_depth y_ops y_held y_fault y_steps y_shownSteps y_result y_line y_lineLength y_has y_sealed y_initial y_drafted y_draftHas y_draftInitial y_lists y_listLength y_gone y_classOfObject y_slots y_parameters y_generic y_single y_special y_kind y_tokens y_with y_methodAt y_pc y_chosen y_many y_reached y_opsAt y_broken y_arguments y_operands y_operator y_got n s0 384 := by
  refine loop_0 (σ := Int32) (fun n i s => wY_method_79 post (nI g) (nI t) y_classes y_supers y_objects y_specials y_depth y_ops y_held y_fault y_steps y_shownSteps y_result y_line y_lineLength y_has y_sealed y_initial y_drafted y_draftHas y_draftInitial y_lists y_listLength y_gone y_classOfObject y_slots y_parameters y_generic y_single y_special y_kind y_tokens y_with y_methodAt y_pc y_chosen y_many y_reached y_opsAt y_broken y_arguments y_operands y_operator y_got n s (nI (384 + i))) (fun i s => (s = 1 ∧ nd = p ∧ rl_pn (rl_am y_parameters y_kind y_with 24) t 0 1 ∧ ∀ j, j < i → y_kind (384 + j) = 1 → ∃ a, a < p ∧ y_with (384 + j) = nI a) ∨ (s = 0 ∧ ¬ me_so y_parameters y_kind y_with p nd t)) t s0 ?_ ?_ ?_
  · rcases hs0 with ⟨e, h2, h3⟩ | h
    · exact Or.inl ⟨e, h2, h3, lt_0⟩
    · exact Or.inr h
  · intro n s hI
    refine br_t (by rw [bs_ad 384 t]; exact nI_le (Nat.le_refl _) (by omega)) ?_
    rcases hI with ⟨rfl, h2, h3, h4⟩ | ⟨rfl, h⟩
    · exact br_f (by decide) (h1 ⟨h2, h4, h3⟩)
    · exact br_t rfl (h0 h)
  · intro n i s hi hI k
    refine br_f (by rw [bs_ad 384 t]; exact nI_ge (by omega) (by omega)) ⟨pk_in (384 + i) 400 (by omega), ?_⟩
    rw [bs_clk (n := 384 + i) (by omega), bs_clk (n := g) (by omega), ep]
    refine br_c (fun e1 => ⟨pk_in (384 + i) 400 (by omega), pk_in g 5 hg, ?_⟩) (fun ne => nm_r (nI_1 (384 + i)) (k s ?_))
    · obtain ⟨q, hq, eq, hq1, _⟩ := hk i hi
      have e1' : y_kind (16 * 24 + i) = nI 1 := e1
      rw [e1'] at eq
      obtain ⟨a, ha, ea⟩ := hq1 (bs_inj (by omega) (by omega) eq).symm
      have ea' : y_with (384 + i) = nI a := ea
      rw [ea']
      refine pk_lt a p (fun h => nm_r (nI_1 (384 + i)) (k s ?_)) (fun h => nm_r (nI_1 (384 + i)) (k 0 (Or.inr ⟨rfl, fun z => ?_⟩)))
      · rcases hI with ⟨e, h2, h3, h4⟩ | h'
        · exact Or.inl ⟨e, h2, h3, lt_s h4 (fun _ => ⟨a, h, ea'⟩)⟩
        · exact Or.inr h'
      · obtain ⟨b, hb, eb⟩ := z.2.1 i hi e1
        rw [ea'] at eb
        have := bs_inj (by omega) (by omega) eb
        omega
    · rcases hI with ⟨e, h2, h3, h4⟩ | h'
      · exact Or.inl ⟨e, h2, h3, lt_s h4 (fun z => absurd z ne)⟩
      · exact Or.inr h'
theorem my_method {post : Int32 → SY → Prop} {nc no g p nd t : Nat} {SP : Nat → Int64} (hnc : nc ≤ 16) (hno : no ≤ 20) (hg : g < 5) (hp3 : p ≤ 3) (hnd : nd ≤ 3) (ht : t ≤ 16) (ep : y_parameters g = nI p) (et : y_tokens 24 = nI t) (hgen : rl_gen y_generic) (hpar : rl_par y_parameters) (hk : ∀ i, i < t → rl_tk nc (y_kind (16 * 24 + i)) (y_with (16 * 24 + i))) (hs : ∀ m, m < 24 → y_generic m = nI g → ∀ k, k < p → rl_sp nc no (SP (3 * m + k)) (y_single (3 * m + k)) (y_special (3 * m + k))) (hd : ∀ k, k < nd → rl_sp nc no (SP (72 + k)) (y_single (72 + k)) (y_special (72 + k)))
    (h0 : ¬ me_so y_parameters y_kind y_with p nd t → post (-4) (y_classes, y_supers, y_objects, 0, y_depth, y_ops, y_held, y_fault, y_steps, y_shownSteps, y_result, y_line, y_lineLength, y_has, y_sealed, y_initial, y_drafted, y_draftHas, y_draftInitial, y_lists, y_listLength, y_gone, y_classOfObject, y_slots, y_parameters, y_generic, y_single, y_special, y_kind, upd y_tokens 24 0, y_with, y_methodAt, y_pc, y_chosen, y_many, y_reached, y_opsAt, y_broken, y_arguments, y_operands, y_operator, y_got))
    (h8 : me_so y_parameters y_kind y_with p nd t → (∀ m, m < 24 → ¬ me_sm y_generic SP g nd m) → (∀ m, m < 24 → ¬ y_generic m = -1) → post 8 (y_classes, y_supers, y_objects, 0, y_depth, y_ops, y_held, y_fault, y_steps, y_shownSteps, y_result, y_line, y_lineLength, y_has, y_sealed, y_initial, y_drafted, y_draftHas, y_draftInitial, y_lists, y_listLength, y_gone, y_classOfObject, y_slots, y_parameters, y_generic, y_single, y_special, y_kind, upd y_tokens 24 0, y_with, y_methodAt, y_pc, y_chosen, y_many, y_reached, y_opsAt, y_broken, y_arguments, y_operands, y_operator, y_got))
    (h1 : me_so y_parameters y_kind y_with p nd t → ∀ m, m < 24 → (me_sm y_generic SP g nd m ∨ ((∀ m, m < 24 → ¬ me_sm y_generic SP g nd m) ∧ y_generic m = -1 ∧ ∀ j, j < m → ¬ y_generic j = -1)) → ∀ (SI' : Nat → Int32) (SG' : Nat → Int64), me_PY y_single SI' y_special SG' m nd 3 → post (nI m) (y_classes, y_supers, y_objects, 0, y_depth, y_ops, y_held, y_fault, y_steps, y_shownSteps, y_result, y_line, y_lineLength, y_has, y_sealed, y_initial, y_drafted, y_draftHas, y_draftInitial, y_lists, y_listLength, y_gone, y_classOfObject, y_slots, y_parameters, upd y_generic m (nI g), SI', SG', me_cp y_kind (16 * m) 384 t, upd (upd y_tokens 24 0) m (nI t), me_cp y_with (16 * m) 384 t, y_methodAt, y_pc, y_chosen, y_many, y_reached, y_opsAt, y_broken, y_arguments, y_operands, y_operator, y_got)) : wpY_method post (y_classes, y_supers, y_objects, nI nd, y_depth, y_ops, y_held, y_fault, y_steps, y_shownSteps, y_result, y_line, y_lineLength, y_has, y_sealed, y_initial, y_drafted, y_draftHas, y_draftInitial, y_lists, y_listLength, y_gone, y_classOfObject, y_slots, y_parameters, y_generic, y_single, y_special, y_kind, y_tokens, y_with, y_methodAt, y_pc, y_chosen, y_many, y_reached, y_opsAt, y_broken, y_arguments, y_operands, y_operator, y_got) (nI g) := by
  have hzz : ∀ k, k < nd → y_single (72 + k) = 0 ∨ y_single (72 + k) = 1 := fun k hkk => by
    rcases hd k hkk with h | h
    · exact Or.inl h.1
    · exact Or.inr h.1
  have h79 : ∀ s0 : Int32, ((s0 = 1 ∧ nd = p ∧ rl_pn (rl_am y_parameters y_kind y_with 24) t 0 1) ∨ (s0 = 0 ∧ ¬ me_so y_parameters y_kind y_with p nd t)) → ∃ n, wY_method_79 post (nI g) (nI t) y_classes y_supers y_objects 0 y_depth y_ops y_held y_fault y_steps y_shownSteps y_result y_line y_lineLength y_has y_sealed y_initial y_drafted y_draftHas y_draftInitial y_lists y_listLength y_gone y_classOfObject y_slots y_parameters y_generic y_single y_special y_kind (upd y_tokens 24 0) y_with y_methodAt y_pc y_chosen y_many y_reached y_opsAt y_broken y_arguments y_operands y_operator y_got n s0 384 := by
    intro s0 hs0
    refine my_m79 (nd := nd) hg hp3 ht ep hk hs0 (fun hso => ?_) (fun hso => h0 hso)
    have epd : nd = p := hso.1
    have hm1 : ∀ m, m < 24 → me_sm y_generic SP g p m → ((0 ≤ nI m → (vp_in (nI m) 24 ∧ ∀ a_generic_14 : Nat → Int32, a_generic_14 = upd y_generic (nI m).toNatClampNeg (vp_nar .byte (nI g).toInt8.toInt32) → (∃ n225 : Nat, wY_method_225 post (nI t) (nI m) y_classes y_supers y_objects 0 y_depth y_ops y_held y_fault y_steps y_shownSteps y_result n225 0 y_line y_lineLength y_has y_sealed y_initial y_drafted y_draftHas y_draftInitial y_lists y_listLength y_gone y_classOfObject y_slots y_parameters a_generic_14 y_single y_special y_kind (upd y_tokens 24 0) y_with y_methodAt y_pc y_chosen y_many y_reached y_opsAt y_broken y_arguments y_operands y_operator y_got))) ∧ (¬ 0 ≤ nI m → (post 8 (y_classes, y_supers, y_objects, 0, y_depth, y_ops, y_held, y_fault, y_steps, y_shownSteps, y_result, y_line, y_lineLength, y_has, y_sealed, y_initial, y_drafted, y_draftHas, y_draftInitial, y_lists, y_listLength, y_gone, y_classOfObject, y_slots, y_parameters, y_generic, y_single, y_special, y_kind, upd y_tokens 24 0, y_with, y_methodAt, y_pc, y_chosen, y_many, y_reached, y_opsAt, y_broken, y_arguments, y_operands, y_operator, y_got)))) := by
      intro m hm hsm
      rw [← epd] at hsm
      exact my_mfin (nd := nd) hg hm ht hk hzz (h1 hso m hm (Or.inl hsm))
    have hd' : ∀ k, k < p → rl_sp nc no (SP (72 + k)) (y_single (72 + k)) (y_special (72 + k)) := fun k hkk => hd k (by omega)
    refine my_m140 hgen (fun f hf e hj => ?_) (fun hj => ?_)
    · refine my_m168 hnc hno hg hp3 ep hs hd' hm1 (fun hno => ?_)
      rw [← epd] at hno
      exact my_mfin (nd := nd) hg hf ht hk hzz (h1 hso f hf (Or.inr ⟨hno, e, hj⟩))
    · refine my_m168 hnc hno hg hp3 ep hs hd' hm1 (fun hno => ?_)
      rw [← epd] at hno
      exact br_f (by decide) (h8 hso hno hj)
  unfold wpY_method
  refine my_out_t (n := 5) hg (by omega) (br_t rfl (nm_r et (nm_r (e' := upd y_tokens 24 0) (by rw [bs_v0]) ⟨pk_in g 5 hg, ?_⟩)))
  rw [bs_clk (n := g) (by omega), ep]
  refine pk_eq nd p (fun e => ?_) (fun e => h79 0 (Or.inr ⟨rfl, fun z => e z.1⟩))
  rw [bs_ad 384 t]
  unfold wpY_endOf
  by_cases hq : rl_pn (rl_am y_parameters y_kind y_with 24) t 0 1
  · refine ⟨t + 1, my_endA (m := 24) (t := t) (by omega) hpar ht hk t 0 1 (by omega) (by omega) hq ?_⟩
    rw [Nat.zero_add]
    exact br_t rfl (h79 1 (Or.inl ⟨rfl, e, hq⟩))
  · refine ⟨t + 1, my_endB (m := 24) (t := t) (by omega) hpar ht hk (fun r hr => ?_) t 0 1 (by omega) (by omega) hq⟩
    exact br_f hr (h79 0 (Or.inr ⟨rfl, fun z => hq z.2.2⟩))
end
end
section
theorem me_comm {f : Nat → Int32} {a b : Nat} {x y : Int32} (h : a ≠ b) : upd (upd f a x) b y = upd (upd f b y) a x := by
  funext j
  by_cases e : j = b
  · rw [e, pk_us, pk_un (fun z => h z.symm), pk_us]
  · rw [pk_un e]
    by_cases e2 : j = a
    · rw [e2, pk_us, pk_us]
    · rw [pk_un e2, pk_un e2, pk_un e]
theorem me_tok {nc m t : Nat} {TK TV TC : Nat → Int32} (h : rl_tok nc TK TV TC) (hm : m < 24) (ht : t ≤ 16) (et : TC 24 = nI t) : rl_tok nc (me_cp TK (16 * m) 384 t) (me_cp TV (16 * m) 384 t) (upd (upd TC m (nI t)) 24 0) := by
  intro j hj
  by_cases e : j = 24
  · rw [e, pk_us]
    exact ⟨0, by omega, rfl, fun i hi => by omega⟩
  · rw [pk_un e]
    by_cases e2 : j = m
    · rw [e2, pk_us]
      refine ⟨t, ht, rfl, fun i hi => ?_⟩
      rw [me_cp_i hi, me_cp_i hi]
      obtain ⟨t', h1, h2, h3⟩ := h 24 (by omega)
      rw [et] at h2
      have := bs_inj (by omega) (by omega) h2
      exact h3 i (by omega)
    · rw [pk_un e2]
      obtain ⟨t', h1, h2, h3⟩ := h j hj
      refine ⟨t', h1, h2, fun i hi => ?_⟩
      rw [me_cp_n (by omega), me_cp_n (by omega)]
      exact h3 i hi
theorem me_tok0 {nc : Nat} {TK TV TC : Nat → Int32} (h : rl_tok nc TK TV TC) : rl_tok nc TK TV (upd TC 24 0) := by
  intro j hj
  by_cases e : j = 24
  · rw [e, pk_us]
    exact ⟨0, by omega, rfl, fun i hi => by omega⟩
  · rw [pk_un e]
    exact h j hj
theorem me_bod {m g p nd t : Nat} {PC MG TK TV TC : Nat → Int32} (h : rl_bod PC MG TK TV TC) (hm : m < 24) (hg : g < 5) (hp3 : p ≤ 3) (ht : t ≤ 16) (ep : PC g = nI p) (hso : me_so PC TK TV p nd t) : rl_bod PC (upd MG m (nI g)) (me_cp TK (16 * m) 384 t) (me_cp TV (16 * m) 384 t) (upd (upd TC m (nI t)) 24 0) := by
  intro j g' p' t' hj hg' hp' ht' h1 h2 h3
  by_cases e : j = m
  · subst e
    rw [pk_us] at h1
    have eg := bs_inj (by omega) (by omega) h1
    subst eg
    rw [ep] at h2
    have ep' := bs_inj (by omega) (by omega) h2
    subst ep'
    rw [pk_un (by omega), pk_us] at h3
    have et' := bs_inj (by omega) (by omega) h3
    subst et'
    refine ⟨fun i hi hk => ?_, ea_pn_c t 0 1 (fun i _ hi => ?_) hso.2.2⟩
    · rw [me_cp_i hi] at hk ⊢
      exact hso.2.1 i hi hk
    · unfold rl_am
      rw [me_cp_i (by omega), me_cp_i (by omega)]
  · rw [pk_un e] at h1
    rw [pk_un (by omega), pk_un e] at h3
    obtain ⟨b1, b2⟩ := h j g' p' t' hj hg' hp' ht' h1 h2 h3
    refine ⟨fun i hi hk => ?_, ea_pn_c t' 0 1 (fun i _ hi => ?_) b2⟩
    · rw [me_cp_n (by omega)] at hk
      rw [me_cp_n (by omega)]
      exact b1 i hi hk
    · unfold rl_am
      rw [me_cp_n (by omega), me_cp_n (by omega)]
theorem me_spc {nc no nd m g p : Nat} {MG PC : Nat → Int32} {SP SP' : Nat → Int64} {SI SI' : Nat → Int32} {SG SG' : Nat → Int64} (h : rl_spc nc no nd MG PC SP SI SG) (hm : m < 24) (hg : g < 5) (hp3 : p ≤ 3) (ep : PC g = nI p) (epd : nd = p) (hX : me_PX SP SP' m nd) (hY : me_PY SI SI' SG SG' m nd 3) : rl_spc nc no 0 (upd MG m (nI g)) PC SP' SI' SG' := by
  refine ⟨by omega, fun k hk => by omega, fun j g' p' hj hg' hp' h1 h2 k hk => ?_⟩
  by_cases e : j = m
  · subst e
    rw [pk_us] at h1
    have eg := bs_inj (by omega) (by omega) h1
    subst eg
    rw [ep] at h2
    have ep' := bs_inj (by omega) (by omega) h2
    subst ep'
    rw [hX.2 k (by omega), (hY.2 k (by omega) (by omega)).1, (hY.2 k (by omega) (by omega)).2]
    exact h.2.1 k (by omega)
  · rw [pk_un e] at h1
    rw [hX.1 _ (by omega), (hY.1 _ (by omega)).1, (hY.1 _ (by omega)).2]
    exact h.2.2 j g' p' hj hg' hp' h1 h2 k hk
theorem me_unq {nd m g p : Nat} {MG PC : Nat → Int32} {SP SP' : Nat → Int64} (h : rl_unq MG PC SP) (hm : m < 24) (hg : g < 5) (hp3 : p ≤ 3) (ep : PC g = nI p) (epd : nd = p) (hX : me_PX SP SP' m nd) (hpl : me_sm MG SP g nd m ∨ ∀ m, m < 24 → ¬ me_sm MG SP g nd m) : rl_unq (upd MG m (nI g)) PC SP' := by
  have key : ∀ j, j < 24 → j ≠ m → MG j = nI g → (∀ k, k < p → SP (72 + k) = SP (3 * j + k)) → False := by
    intro j hj hjm e hk
    have hsm : me_sm MG SP g nd j := ⟨e, fun k hk2 => (hk k (by omega)).symm⟩
    rcases hpl with hpl | hpl
    · exact hjm (h j m g p hj hm hg hp3 e hpl.1 ep (fun k hk2 => by rw [hsm.2 k (by omega), hpl.2 k (by omega)]))
    · exact hpl j hj hsm
  intro i j g' p' hi hj hg' hp' h1 h2 h3 h4
  by_cases e : i = m
  · by_cases e2 : j = m
    · omega
    · rw [pk_un e2] at h2
      rw [e, pk_us] at h1
      have eg := bs_inj (by omega) (by omega) h1
      subst eg
      rw [ep] at h3
      have ep' := bs_inj (by omega) (by omega) h3
      subst ep'
      refine absurd (key j hj e2 h2 (fun k hk => ?_)) (fun z => z)
      have := h4 k hk
      rw [e, hX.2 k (by omega), hX.1 _ (by omega)] at this
      exact this
  · rw [pk_un e] at h1
    by_cases e2 : j = m
    · rw [e2, pk_us] at h2
      have eg := bs_inj (by omega) (by omega) h2
      subst eg
      rw [ep] at h3
      have ep' := bs_inj (by omega) (by omega) h3
      subst ep'
      refine absurd (key i hi e h1 (fun k hk => ?_)) (fun z => z)
      have := h4 k hk
      rw [e2, hX.2 k (by omega), hX.1 _ (by omega)] at this
      exact this.symm
    · rw [pk_un e2] at h2
      refine h i j g' p' hi hj hg' hp' h1 h2 h3 (fun k hk => ?_)
      have := h4 k hk
      rw [hX.1 _ (by omega), hX.1 _ (by omega)] at this
      exact this
theorem i_vc_method {k : Nat} {u : SX} {v : SY} (I : i_Rel k u v) (hk : k + 9 ≤ 4608) (v1 : Int32) : wpX_method (fun r u' => wpY_method (fun r' v' => r' = r ∧ i_Rel (k + 9) u' v') v v1) u v1 := by
  obtain ⟨x_classCount, x_superCount, x_objectCount, x_draftSpecialCount, x_state, x_stepCount, x_latestValue, x_enterGeneric, x_enterPlace, x_frameCount, x_operatorCount, x_valueCount, x_lineClass, x_lineLength, x_isSealed, x_classHasSlot, x_classSlot, x_superDraft, x_objectClass, x_objectHasSlot, x_objectSlot, x_parameterCount, x_methodGeneric, x_specialiser, x_tokenKind, x_tokenValue, x_tokenCount, x_argument, x_rank, x_orderPlace, x_frameMethod, x_framePlace, x_frameToken, x_frameOperators, x_frameArgument, x_operatorKind, x_operatorValue, x_operatorLeft, x_workedOut⟩ := u
  obtain ⟨y_classes, y_supers, y_objects, y_specials, y_depth, y_ops, y_held, y_fault, y_steps, y_shownSteps, y_result, y_line, y_lineLength, y_has, y_sealed, y_initial, y_drafted, y_draftHas, y_draftInitial, y_lists, y_listLength, y_gone, y_classOfObject, y_slots, y_parameters, y_generic, y_single, y_special, y_kind, y_tokens, y_with, y_methodAt, y_pc, y_chosen, y_many, y_reached, y_opsAt, y_broken, y_arguments, y_operands, y_operator, y_got⟩ := v
  obtain ⟨nc, no, ns, nd, rfl, rfl, rfl, rfl, rfl, rfl, rfl, rfl, rfl, rfl, rfl, rfl, rfl, rfl, rfl, rfl, rfl, rfl, rfl, rfl, hcls, hsup, hslt, hobj, hpar, hgen, htok, hbod, hspc, hunq⟩ := I
  have J : i_Rel (k + 9) (nI nc, nI ns, nI no, nI nd, x_state, x_stepCount, x_latestValue, x_enterGeneric, x_enterPlace, x_frameCount, x_operatorCount, x_valueCount, x_lineClass, x_lineLength, x_isSealed, x_classHasSlot, x_classSlot, x_superDraft, x_objectClass, x_objectHasSlot, x_objectSlot, x_parameterCount, x_methodGeneric, x_specialiser, x_tokenKind, x_tokenValue, x_tokenCount, x_argument, x_rank, x_orderPlace, x_frameMethod, x_framePlace, x_frameToken, x_frameOperators, x_frameArgument, x_operatorKind, x_operatorValue, x_operatorLeft, x_workedOut) (nI nc, nI ns, nI no, nI nd, y_depth, y_ops, y_held, y_fault, y_steps, x_stepCount, x_latestValue, x_lineClass, x_lineLength, y_has, x_isSealed, y_initial, x_superDraft, y_draftHas, y_draftInitial, y_lists, y_listLength, y_gone, x_objectClass, y_slots, x_parameterCount, x_methodGeneric, y_single, y_special, x_tokenKind, x_tokenCount, x_tokenValue, y_methodAt, y_pc, y_chosen, y_many, y_reached, y_opsAt, y_broken, y_arguments, y_operands, y_operator, y_got) := ⟨nc, no, ns, nd, rfl, rfl, rfl, rfl, rfl, rfl, rfl, rfl, rfl, rfl, rfl, rfl, rfl, rfl, rfl, rfl, rfl, rfl, rfl, rfl, hcls, hsup, hslt, hobj, hpar, hgen, htok, hbod, hspc, hunq⟩
  have hn : nc ≤ 16 := hcls.2.1
  have hno := hobj.1
  have hnd := hspc.1
  obtain ⟨t, ht, et, htt⟩ := htok 24 (by omega)
  rcases bs_ar2 v1 (n := 5) (by omega) with h | ⟨g, hg, rfl⟩
  · unfold wpX_method
    refine mx_isGeneric_f h (br_t rfl ?_)
    unfold wpY_method
    exact my_out_f (q := 5) h (br_f (by decide) ⟨rfl, J⟩)
  · obtain ⟨p, hp1, hp3, ep⟩ := hpar g hg
    have hs : ∀ m, m < 24 → x_methodGeneric m = nI g → ∀ k, k < p → rl_sp nc no (x_specialiser (3 * m + k)) (y_single (3 * m + k)) (y_special (3 * m + k)) := fun m hm e q hq => hspc.2.2 m g p hm hg hp3 e ep q hq
    have hJ0 : i_Rel (k + 9) (nI nc, nI ns, nI no, 0, x_state, x_stepCount, x_latestValue, x_enterGeneric, x_enterPlace, x_frameCount, x_operatorCount, x_valueCount, x_lineClass, x_lineLength, x_isSealed, x_classHasSlot, x_classSlot, x_superDraft, x_objectClass, x_objectHasSlot, x_objectSlot, x_parameterCount, x_methodGeneric, x_specialiser, x_tokenKind, x_tokenValue, upd x_tokenCount 24 0, x_argument, x_rank, x_orderPlace, x_frameMethod, x_framePlace, x_frameToken, x_frameOperators, x_frameArgument, x_operatorKind, x_operatorValue, x_operatorLeft, x_workedOut) (nI nc, nI ns, nI no, 0, y_depth, y_ops, y_held, y_fault, y_steps, x_stepCount, x_latestValue, x_lineClass, x_lineLength, y_has, x_isSealed, y_initial, x_superDraft, y_draftHas, y_draftInitial, y_lists, y_listLength, y_gone, x_objectClass, y_slots, x_parameterCount, x_methodGeneric, y_single, y_special, x_tokenKind, upd x_tokenCount 24 0, x_tokenValue, y_methodAt, y_pc, y_chosen, y_many, y_reached, y_opsAt, y_broken, y_arguments, y_operands, y_operator, y_got) :=
      ⟨nc, no, ns, 0, rfl, rfl, rfl, rfl, rfl, rfl, rfl, rfl, rfl, rfl, rfl, rfl, rfl, rfl, rfl, rfl, rfl, rfl, rfl, rfl, hcls, hsup, hslt, hobj, hpar, hgen, me_tok0 htok, ea_bod_c hbod (fun m g hm hg _ => ⟨pk_un (by omega), fun i hi => ⟨rfl, rfl⟩⟩), ⟨by omega, fun q hq => by omega, hspc.2.2⟩, hunq⟩
    have hJ1 : ∀ m, m < 24 → me_so x_parameterCount x_tokenKind x_tokenValue p nd t → (me_sm x_methodGeneric x_specialiser g nd m ∨ ∀ m, m < 24 → ¬ me_sm x_methodGeneric x_specialiser g nd m) → ∀ (SP' : Nat → Int64), me_PX x_specialiser SP' m nd → ∀ (SI' : Nat → Int32) (SG' : Nat → Int64), me_PY y_single SI' y_special SG' m nd 3 → i_Rel (k + 9) (nI nc, nI ns, nI no, 0, x_state, x_stepCount, x_latestValue, x_enterGeneric, x_enterPlace, x_frameCount, x_operatorCount, x_valueCount, x_lineClass, x_lineLength, x_isSealed, x_classHasSlot, x_classSlot, x_superDraft, x_objectClass, x_objectHasSlot, x_objectSlot, x_parameterCount, upd x_methodGeneric m (nI g), SP', me_cp x_tokenKind (16 * m) 384 t, me_cp x_tokenValue (16 * m) 384 t, upd (upd x_tokenCount m (nI t)) 24 0, x_argument, x_rank, x_orderPlace, x_frameMethod, x_framePlace, x_frameToken, x_frameOperators, x_frameArgument, x_operatorKind, x_operatorValue, x_operatorLeft, x_workedOut) (nI nc, nI ns, nI no, 0, y_depth, y_ops, y_held, y_fault, y_steps, x_stepCount, x_latestValue, x_lineClass, x_lineLength, y_has, x_isSealed, y_initial, x_superDraft, y_draftHas, y_draftInitial, y_lists, y_listLength, y_gone, x_objectClass, y_slots, x_parameterCount, upd x_methodGeneric m (nI g), SI', SG', me_cp x_tokenKind (16 * m) 384 t, upd (upd x_tokenCount 24 0) m (nI t), me_cp x_tokenValue (16 * m) 384 t, y_methodAt, y_pc, y_chosen, y_many, y_reached, y_opsAt, y_broken, y_arguments, y_operands, y_operator, y_got) := by
      intro m hm hso hpl SP' hX SI' SG' hY
      refine ⟨nc, no, ns, 0, rfl, rfl, rfl, rfl, rfl, rfl, rfl, rfl, rfl, rfl, rfl, rfl, rfl, rfl, rfl, rfl, rfl, rfl, rfl, me_comm (by omega), hcls, hsup, hslt, hobj, hpar, fun j hj => ?_, me_tok htok hm ht et, me_bod hbod hm hg hp3 ht ep hso, me_spc hspc hm hg hp3 ep hso.1 hX hY, me_unq hunq hm hg hp3 ep hso.1 hX hpl⟩
      by_cases e : j = m
      · rw [e, pk_us]; exact Or.inr ⟨g, hg, rfl⟩
      · rw [pk_un e]; exact hgen j hj
    unfold wpX_method
    refine mx_isGeneric_t hg (br_f (by decide) ?_)
    refine mx_isDraftSound hg hnd hp3 ep hpar ht et htt (fun hso => br_f (by decide) ?_) (fun hso => br_t rfl ?_)
    · have epd : nd = p := hso.1
      have fin : ∀ m, m < 24 → (me_sm x_methodGeneric x_specialiser g nd m ∨ ((∀ m, m < 24 → ¬ me_sm x_methodGeneric x_specialiser g nd m) ∧ x_methodGeneric m = -1 ∧ ∀ j, j < m → ¬ x_methodGeneric j = -1)) → ∀ (SP' : Nat → Int64), me_PX x_specialiser SP' m nd → wpY_method (fun r' v' => r' = nI m ∧ i_Rel (k + 9) (nI nc, nI ns, nI no, 0, x_state, x_stepCount, x_latestValue, x_enterGeneric, x_enterPlace, x_frameCount, x_operatorCount, x_valueCount, x_lineClass, x_lineLength, x_isSealed, x_classHasSlot, x_classSlot, x_superDraft, x_objectClass, x_objectHasSlot, x_objectSlot, x_parameterCount, upd x_methodGeneric m (nI g), SP', me_cp x_tokenKind (16 * m) 384 t, me_cp x_tokenValue (16 * m) 384 t, upd (upd x_tokenCount m (nI t)) 24 0, x_argument, x_rank, x_orderPlace, x_frameMethod, x_framePlace, x_frameToken, x_frameOperators, x_frameArgument, x_operatorKind, x_operatorValue, x_operatorLeft, x_workedOut) v') (nI nc, nI ns, nI no, nI nd, y_depth, y_ops, y_held, y_fault, y_steps, x_stepCount, x_latestValue, x_lineClass, x_lineLength, y_has, x_isSealed, y_initial, x_superDraft, y_draftHas, y_draftInitial, y_lists, y_listLength, y_gone, x_objectClass, y_slots, x_parameterCount, x_methodGeneric, y_single, y_special, x_tokenKind, x_tokenCount, x_tokenValue, y_methodAt, y_pc, y_chosen, y_many, y_reached, y_opsAt, y_broken, y_arguments, y_operands, y_operator, y_got) (nI g) := by
        intro m hm hpl SP' hX
        refine my_method (nc := nc) (p := p) (t := t) hn hno hg hp3 hnd ht ep et hgen hpar htt hs hspc.2.1 (fun z => absurd hso z) (fun _ h1 h2 => ?_) (fun _ m' hm' hpl' SI' SG' hY => ?_)
        · rcases hpl with hpl | ⟨_, e, _⟩
          · exact absurd hpl (h1 m hm)
          · exact absurd e (h2 m hm)
        · have em : m' = m := by
            rcases hpl with hpl | ⟨h1, h2, h3⟩
            · rcases hpl' with hpl' | ⟨h1', _⟩
              · exact hunq m' m g p hm' hm hg hp3 hpl'.1 hpl.1 ep (fun q hq => by rw [hpl'.2 q (by omega), hpl.2 q (by omega)])
              · exact absurd hpl (h1' m hm)
            · rcases hpl' with hpl' | ⟨_, h2', h3'⟩
              · exact absurd hpl' (h1 m' hm')
              · by_cases c1 : m' < m
                · exact absurd h2' (h3 m' c1)
                · by_cases c2 : m < m'
                  · exact absurd h2 (h3' m c2)
                  · omega
          subst em
          refine ⟨rfl, hJ1 m' hm hso ?_ SP' hX SI' SG' hY⟩
          rcases hpl with hpl | ⟨h1, _⟩
          · exact Or.inl hpl
          · exact Or.inr h1
      refine mx_placeForDraft hg hnd (fun m hm hsm => ?_) (fun hnone f hf e hj => ?_) (fun hnone hfull => ?_)
      · refine br_f (bs_n1 (by omega)) (br_f (bs_n1 (by omega)) ?_)
        exact mx_copyDraft (nc := nc) hg hm hnd ht et (fun SP' hX => nm_e (fin m hm (Or.inl hsm) SP' hX))
      · refine br_f (bs_n1 (by omega)) (br_f (bs_n1 (by omega)) ?_)
        exact mx_copyDraft (nc := nc) hg hf hnd ht et (fun SP' hX => nm_e (fin f hf (Or.inr ⟨hnone, e, hj⟩) SP' hX))
      · refine br_t rfl (br_t rfl (nm_e ?_))
        refine my_method (nc := nc) (p := p) (t := t) hn hno hg hp3 hnd ht ep et hgen hpar htt hs hspc.2.1 (fun z => absurd hso z) (fun _ h1 h2 => ⟨rfl, hJ0⟩) (fun _ m' hm' hpl' SI' SG' hY => ?_)
        rcases hpl' with hpl' | ⟨_, h2', h3'⟩
        · exact absurd hpl' (hnone m' hm')
        · exact absurd h2' (hfull m' hm')
    · refine nm_e ?_
      exact my_method (nc := nc) (p := p) (t := t) hn hno hg hp3 hnd ht ep et hgen hpar htt hs hspc.2.1 (fun _ => ⟨rfl, hJ0⟩) (fun z => absurd z hso) (fun z => absurd z hso)
end
section
/-! the merge: lists E k i (i < ln k), k ≤ ns; G k: how many are gone; T: the taken classes as a bit set -/
def mg_beh (E : Nat → Nat → Nat) (ln : Nat → Nat) (ns : Nat) (G : Nat → Nat) (c : Nat) : Prop := ∃ k i, k ≤ ns ∧ G k < i ∧ i < ln k ∧ E k i = c
def mg_cd (E : Nat → Nat → Nat) (ln : Nat → Nat) (ns : Nat) (G : Nat → Nat) (k : Nat) : Prop := G k < ln k ∧ ¬ mg_beh E ln ns G (E k (G k))
noncomputable def mg_k (E : Nat → Nat → Nat) (ln : Nat → Nat) (ns : Nat) (G : Nat → Nat) : Nat := bs_fi (mg_cd E ln ns G) (ns + 1)
def mg_h (E : Nat → Nat → Nat) (ln : Nat → Nat) (ns : Nat) (G : Nat → Nat) : Prop := mg_k E ln ns G < ns + 1
noncomputable def mg_c (E : Nat → Nat → Nat) (ln : Nat → Nat) (ns : Nat) (G : Nat → Nat) : Nat := E (mg_k E ln ns G) (G (mg_k E ln ns G))
noncomputable def mg_g (E : Nat → Nat → Nat) (ln : Nat → Nat) (ns : Nat) (G : Nat → Nat) : Nat → Nat := fun k => bs_ci (G k < ln k ∧ E k (G k) = mg_c E ln ns G) (G k + 1) (G k)
noncomputable def mg_G (E : Nat → Nat → Nat) (ln : Nat → Nat) (ns : Nat) : Nat → Nat → Nat
  | 0 => fun _ => 0
  | q + 1 => mg_g E ln ns (mg_G E ln ns q)
noncomputable def mg_T (E : Nat → Nat → Nat) (ln : Nat → Nat) (ns : Nat) : Nat → Int32
  | 0 => 0
  | q + 1 => mg_T E ln ns q ||| ((1 : Int32) <<< (nI (mg_c E ln ns (mg_G E ln ns q)) &&& 31))
noncomputable def mg_N (E : Nat → Nat → Nat) (ln : Nat → Nat) (ns : Nat) : Nat := bs_fi (fun q => ¬ mg_h E ln ns (mg_G E ln ns q)) 16
def mg_inv (E : Nat → Nat → Nat) (ln : Nat → Nat) (ns : Nat) (T : Int32) (G : Nat → Nat) : Prop := (∀ k, k ≤ ns → ∀ i, i < ln k → (or_bit T (E k i) ↔ i < G k)) ∧ ∀ k, k ≤ ns → G k ≤ ln k
def mg_ok (E : Nat → Nat → Nat) (ln : Nat → Nat) (ns nc : Nat) : Prop := ns ≤ 3 ∧ nc ≤ 15 ∧ (∀ k, k ≤ ns → ln k ≤ 16) ∧ ∀ k, k ≤ ns → ∀ i, i < ln k → E k i < nc
theorem mg_cand {E : Nat → Nat → Nat} {ln : Nat → Nat} {ns : Nat} {G : Nat → Nat} (h : mg_h E ln ns G) : mg_k E ln ns G ≤ ns ∧ G (mg_k E ln ns G) < ln (mg_k E ln ns G) ∧ ¬ mg_beh E ln ns G (mg_c E ln ns G) := by
  have h1 := bs_fi_p (p := mg_cd E ln ns G) h
  have h2 : mg_k E ln ns G < ns + 1 := h
  exact ⟨by omega, h1.1, h1.2⟩
theorem mg_step {E : Nat → Nat → Nat} {ln : Nat → Nat} {ns nc : Nat} {T : Int32} {G : Nat → Nat} (hok : mg_ok E ln ns nc) (hi : mg_inv E ln ns T G) (h : mg_h E ln ns G) : mg_inv E ln ns (T ||| ((1 : Int32) <<< (nI (mg_c E ln ns G) &&& 31))) (mg_g E ln ns G) ∧ ¬ or_bit T (mg_c E ln ns G) ∧ mg_c E ln ns G < nc := by
  obtain ⟨hk, hl, hb⟩ := mg_cand h
  obtain ⟨h3, h15, h16, hE⟩ := hok
  have hc : mg_c E ln ns G < nc := hE _ hk _ hl
  refine ⟨⟨fun k hkn i hil => ?_, fun k hkn => ?_⟩, ?_, hc⟩
  · have he := hE k hkn i hil
    rw [or_set (by omega) (by omega), hi.1 k hkn i hil]
    unfold mg_g
    by_cases c1 : G k < ln k ∧ E k (G k) = mg_c E ln ns G
    · rw [bs_ct c1]
      constructor
      · rintro (z | z)
        · omega
        · by_cases c2 : G k < i
          · exact absurd ⟨k, i, hkn, c2, hil, z⟩ hb
          · omega
      · intro z
        by_cases c2 : i = G k
        · rw [c2]; exact Or.inr c1.2
        · exact Or.inl (by omega)
    · rw [bs_cf c1]
      constructor
      · rintro (z | z)
        · exact z
        · by_cases c2 : G k < i
          · exact absurd ⟨k, i, hkn, c2, hil, z⟩ hb
          · by_cases c3 : i = G k
            · rw [c3] at z hil; exact absurd ⟨hil, z⟩ c1
            · omega
      · exact fun z => Or.inl z
  · have := hi.2 k hkn
    unfold mg_g
    by_cases c1 : G k < ln k ∧ E k (G k) = mg_c E ln ns G
    · rw [bs_ct c1]; omega
    · rw [bs_cf c1]; exact this
  · have h1 := hi.1 _ hk _ hl
    intro z
    have h2 := h1.mp z
    omega
theorem mg_Nlt {E : Nat → Nat → Nat} {ln : Nat → Nat} {ns q : Nat} (h : q < mg_N E ln ns) : mg_h E ln ns (mg_G E ln ns q) := Classical.not_not.mp (bs_fi_lt h)
theorem mg_all {E : Nat → Nat → Nat} {ln : Nat → Nat} {ns nc : Nat} (hok : mg_ok E ln ns nc) : ∀ q, q ≤ mg_N E ln ns → mg_inv E ln ns (mg_T E ln ns q) (mg_G E ln ns q) ∧ or_cn (or_bit (mg_T E ln ns q)) nc = q := by
  intro q
  induction q with
  | zero =>
    intro _
    refine ⟨⟨fun k hk i hi => ⟨fun z => absurd z (or_bit0 ?_), fun z => absurd z (Nat.not_lt_zero i)⟩, fun k _ => Nat.zero_le _⟩, ?_⟩
    · have := hok.2.2.2 k hk i hi
      have := hok.2.1
      omega
    · have h1 := or_cn_mono (p := fun _ => False) (q := or_bit (mg_T E ln ns 0)) nc (fun i hi z => or_bit0 (by have := hok.2.1; omega) z)
      have h2 : ∀ n, or_cn (fun _ => False) n = 0 := by
        intro n
        induction n with
        | zero => rfl
        | succ n ih => rw [or_cn_f (fun z => z)]; exact ih
      rw [h2] at h1
      omega
  | succ q ih =>
    intro hq
    obtain ⟨h1, h2⟩ := ih (by omega)
    have hh := mg_Nlt (E := E) (ln := ln) (ns := ns) (q := q) (by omega)
    obtain ⟨h3, h4, h5⟩ := mg_step hok h1 hh
    refine ⟨h3, ?_⟩
    have h15 := hok.2.1
    have key : ∀ n, n ≤ 15 → or_cn (or_bit (mg_T E ln ns (q + 1))) n = or_cn (or_bit (mg_T E ln ns q)) n + bs_ci (mg_c E ln ns (mg_G E ln ns q) < n) 1 0 := by
      intro n
      induction n with
      | zero =>
        intro _
        rw [bs_cf (Nat.not_lt_zero _)]
        rfl
      | succ n ihn =>
        intro hn
        have e := ihn (by omega)
        have hb : or_bit (mg_T E ln ns (q + 1)) n ↔ or_bit (mg_T E ln ns q) n ∨ n = mg_c E ln ns (mg_G E ln ns q) := or_set (by omega) (by omega)
        by_cases c1 : n = mg_c E ln ns (mg_G E ln ns q)
        · rw [or_cn_t (hb.mpr (Or.inr c1)), or_cn_f (by rw [c1]; exact h4), e, bs_cf (by omega), bs_ct (by omega)]
        · by_cases c2 : or_bit (mg_T E ln ns q) n
          · rw [or_cn_t (hb.mpr (Or.inl c2)), or_cn_t c2, e]
            by_cases c3 : mg_c E ln ns (mg_G E ln ns q) < n
            · rw [bs_ct c3, bs_ct (by omega)]
            · rw [bs_cf c3, bs_cf (by omega)]
          · rw [or_cn_f (fun z => (hb.mp z).elim c2 c1), or_cn_f c2, e]
            by_cases c3 : mg_c E ln ns (mg_G E ln ns q) < n
            · rw [bs_ct c3, bs_ct (by omega)]
            · rw [bs_cf c3, bs_cf (by omega)]
    rw [key nc h15, h2, bs_ct h5]
theorem mg_Nle {E : Nat → Nat → Nat} {ln : Nat → Nat} {ns nc : Nat} (hok : mg_ok E ln ns nc) : mg_N E ln ns ≤ nc := by
  have h1 := (mg_all hok (mg_N E ln ns) (Nat.le_refl _)).2
  have h2 := or_cn_le (or_bit (mg_T E ln ns (mg_N E ln ns))) nc
  omega
theorem mg_Nno {E : Nat → Nat → Nat} {ln : Nat → Nat} {ns nc : Nat} (hok : mg_ok E ln ns nc) : ¬ mg_h E ln ns (mg_G E ln ns (mg_N E ln ns)) := by
  have h1 := mg_Nle hok
  have h2 := hok.2.1
  have h3 : mg_N E ln ns < 16 := by omega
  exact bs_fi_p (p := fun q => ¬ mg_h E ln ns (mg_G E ln ns q)) h3
/-- what X's nextOfMerge answers -/
noncomputable def mg_r (E : Nat → Nat → Nat) (ln : Nat → Nat) (ns : Nat) (G : Nat → Nat) : Int32 := bs_ci (mg_h E ln ns G) (nI (mg_c E ln ns G)) (bs_ci (∃ k, k ≤ ns ∧ G k < ln k) (-2) (-1))
/-- the lines after q classes of the merge -/
noncomputable def mg_ln (E : Nat → Nat → Nat) (ln : Nat → Nat) (ns nc : Nat) (LC : Nat → Int32) : Nat → Nat → Int32
  | 0 => upd LC (16 * nc) (nI nc)
  | q + 1 => upd (mg_ln E ln ns nc LC q) (16 * nc + 1 + q) (nI (mg_c E ln ns (mg_G E ln ns q)))
theorem mg_ln_lo {E : Nat → Nat → Nat} {ln : Nat → Nat} {ns nc : Nat} {LC : Nat → Int32} : ∀ q j, j < 16 * nc → mg_ln E ln ns nc LC q j = LC j := by
  intro q
  induction q with
  | zero => intro j hj; exact pk_un (by omega)
  | succ q ih =>
    intro j hj
    show upd _ _ _ j = _
    rw [pk_un (by omega)]
    exact ih j hj
theorem mg_ln_0 {E : Nat → Nat → Nat} {ln : Nat → Nat} {ns nc : Nat} {LC : Nat → Int32} : ∀ q, mg_ln E ln ns nc LC q (16 * nc) = nI nc := by
  intro q
  induction q with
  | zero => exact pk_us
  | succ q ih =>
    show upd _ _ _ _ = _
    rw [pk_un (by omega)]
    exact ih
theorem mg_ln_i {E : Nat → Nat → Nat} {ln : Nat → Nat} {ns nc : Nat} {LC : Nat → Int32} : ∀ q i, i < q → mg_ln E ln ns nc LC q (16 * nc + 1 + i) = nI (mg_c E ln ns (mg_G E ln ns i)) := by
  intro q
  induction q with
  | zero => intro i hi; omega
  | succ q ih =>
    intro i hi
    show upd _ _ _ _ = _
    by_cases e : i = q
    · rw [e, pk_us]
    · rw [pk_un (by omega)]
      exact ih i (by omega)
/-- the lists of this draft -/
def mg_E (SD LC : Nat → Int32) (ns : Nat) : Nat → Nat → Nat := fun k i => if k = ns then (SD i).toNatClampNeg else (LC (16 * (SD k).toNatClampNeg + i)).toNatClampNeg
def mg_l (SD LL : Nat → Int32) (ns : Nat) : Nat → Nat := fun k => if k = ns then ns else (LL (SD k).toNatClampNeg).toNatClampNeg
theorem mg_okL {nc ns : Nat} {SD LC LL : Nat → Int32} (hcls : rl_cls nc LC LL) (h15 : nc ≤ 15) (hsup : rl_sup nc ns SD) : mg_ok (mg_E SD LC ns) (mg_l SD LL ns) ns nc := by
  refine ⟨hsup.1, h15, fun k hk => ?_, fun k hk i hi => ?_⟩
  · unfold mg_l
    by_cases e : k = ns
    · rw [if_pos e]; have := hsup.1; omega
    · rw [if_neg e]
      obtain ⟨c, hc, ec⟩ := hsup.2 k (by omega)
      obtain ⟨l, hl, el, _⟩ := hcls.2.2 c hc
      rw [ec, bs_clk (by omega), el, bs_clk (by omega)]
      exact hl
  · unfold mg_l at hi
    unfold mg_E
    by_cases e : k = ns
    · rw [if_pos e] at hi
      rw [if_pos e]
      obtain ⟨c, hc, ec⟩ := hsup.2 i hi
      rw [ec, bs_clk (by omega)]
      exact hc
    · rw [if_neg e] at hi
      rw [if_neg e]
      obtain ⟨c, hc, ec⟩ := hsup.2 k (by omega)
      obtain ⟨l, hl, el, hk⟩ := hcls.2.2 c hc
      rw [ec, bs_clk (by omega), el, bs_clk (by omega)] at hi
      obtain ⟨e2, he2, ee2⟩ := hk i hi
      rw [ec, bs_clk (by omega), ee2, bs_clk (by omega)]
      exact he2
section
variable {x_classCount : Int32} {x_superCount : Int32} {x_objectCount : Int32} {x_draftSpecialCount : Int32} {x_state : Int32} {x_stepCount : Int32} {x_latestValue : Int64} {x_enterGeneric : Int32} {x_enterPlace : Int32} {x_frameCount : Int32} {x_operatorCount : Int32} {x_valueCount : Int32} {x_lineClass : Nat → Int32} {x_lineLength : Nat → Int32} {x_isSealed : Nat → Int32} {x_classHasSlot : Nat → Int32} {x_classSlot : Nat → Int32} {x_superDraft : Nat → Int32} {x_objectClass : Nat → Int32} {x_objectHasSlot : Nat → Int32} {x_objectSlot : Nat → Int64} {x_parameterCount : Nat → Int32} {x_methodGeneric : Nat → Int32} {x_specialiser : Nat → Int64} {x_tokenKind : Nat → Int32} {x_tokenValue : Nat → Int32} {x_tokenCount : Nat → Int32} {x_argument : Nat → Int64} {x_rank : Nat → Int32} {x_orderPlace : Nat → Int32} {x_frameMethod : Nat → Int32} {x_framePlace : Nat → Int32} {x_frameToken : Nat → Int32} {x_frameOperators : Nat → Int32} {x_frameArgument : Nat → Int64} {x_operatorKind : Nat → Int32} {x_operatorValue : Nat → Int32} {x_operatorLeft : Nat → Int32} {x_workedOut : Nat → Int64}
theorem mx_listEntry {post : Int32 → Prop} {nc ns k i : Nat} {LC : Nat → Int32} (hcls : rl_cls nc LC x_lineLength) (h15 : nc ≤ 15) (hsup : rl_sup nc ns x_superDraft) (hlo : ∀ j, j < 16 * nc → x_lineClass j = LC j) (hk : k ≤ ns) (hi : i < 16) (hp : post (bs_ci (i < mg_l x_superDraft x_lineLength ns k) (nI (mg_E x_superDraft LC ns k i)) (-1))) : wpX_listEntry post (x_classCount, nI ns, x_objectCount, x_draftSpecialCount, x_state, x_stepCount, x_latestValue, x_enterGeneric, x_enterPlace, x_frameCount, x_operatorCount, x_valueCount, x_lineClass, x_lineLength, x_isSealed, x_classHasSlot, x_classSlot, x_superDraft, x_objectClass, x_objectHasSlot, x_objectSlot, x_parameterCount, x_methodGeneric, x_specialiser, x_tokenKind, x_tokenValue, x_tokenCount, x_argument, x_rank, x_orderPlace, x_frameMethod, x_framePlace, x_frameToken, x_frameOperators, x_frameArgument, x_operatorKind, x_operatorValue, x_operatorLeft, x_workedOut) (nI k) (nI i) := by
  have h3 := hsup.1
  unfold wpX_listEntry
  unfold mg_l mg_E at hp
  refine pk_eq k ns (fun e => ?_) (fun e => ⟨pk_in k 3 (by omega), ?_⟩)
  · rw [if_pos e, if_pos e] at hp
    refine pk_le ns i (fun h => ?_) (fun h => ⟨pk_in i 3 (by omega), ?_⟩)
    · rw [bs_cf (by omega)] at hp; exact hp
    · obtain ⟨c, hc, ec⟩ := hsup.2 i h
      rw [bs_ct h, ec, bs_clk (by omega)] at hp
      rw [bs_clk (n := i) (by omega), ec]
      exact hp
  · rw [if_neg e, if_neg e] at hp
    obtain ⟨c, hc, ec⟩ := hsup.2 k (by omega)
    obtain ⟨l, hl, el, hkk⟩ := hcls.2.2 c hc
    rw [ec, bs_clk (by omega), el, bs_clk (by omega)] at hp
    refine nm_r (e' := nI c) (by rw [bs_clk (by omega), ec]) ⟨pk_in c 16 (by omega), ?_⟩
    rw [bs_clk (n := c) (by omega), el]
    refine pk_le l i (fun h => ?_) (fun h => ⟨pk_in (16 * c + i) 256 (by omega) (bs_xi 16 c i), ?_⟩)
    · rw [bs_cf (by omega)] at hp; exact hp
    · obtain ⟨e2, he2, ee2⟩ := hkk i h
      rw [bs_ct h, ee2, bs_clk (by omega)] at hp
      rw [bs_xi 16 c i, bs_clk (n := 16 * c + i) (by omega), hlo _ (by omega), ee2]
      exact hp
end
end
section
/-! the merge in X -/
section
variable {x_classCount : Int32} {x_superCount : Int32} {x_objectCount : Int32} {x_draftSpecialCount : Int32} {x_state : Int32} {x_stepCount : Int32} {x_latestValue : Int64} {x_enterGeneric : Int32} {x_enterPlace : Int32} {x_frameCount : Int32} {x_operatorCount : Int32} {x_valueCount : Int32} {x_lineClass : Nat → Int32} {x_lineLength : Nat → Int32} {x_isSealed : Nat → Int32} {x_classHasSlot : Nat → Int32} {x_classSlot : Nat → Int32} {x_superDraft : Nat → Int32} {x_objectClass : Nat → Int32} {x_objectHasSlot : Nat → Int32} {x_objectSlot : Nat → Int64} {x_parameterCount : Nat → Int32} {x_methodGeneric : Nat → Int32} {x_specialiser : Nat → Int64} {x_tokenKind : Nat → Int32} {x_tokenValue : Nat → Int32} {x_tokenCount : Nat → Int32} {x_argument : Nat → Int64} {x_rank : Nat → Int32} {x_orderPlace : Nat → Int32} {x_frameMethod : Nat → Int32} {x_framePlace : Nat → Int32} {x_frameToken : Nat → Int32} {x_frameOperators : Nat → Int32} {x_frameArgument : Nat → Int64} {x_operatorKind : Nat → Int32} {x_operatorValue : Nat → Int32} {x_operatorLeft : Nat → Int32} {x_workedOut : Nat → Int64}
theorem mx_firstOfList {post : Int32 → Prop} {E : Nat → Nat → Nat} {ln : Nat → Nat} {ns nc k : Nat} {T : Int32} {G : Nat → Nat} (hLE : ∀ (p : Int32 → Prop) (k i : Nat), k ≤ ns → i < 16 → p (bs_ci (i < ln k) (nI (E k i)) (-1)) → wpX_listEntry p (x_classCount, nI ns, x_objectCount, x_draftSpecialCount, x_state, x_stepCount, x_latestValue, x_enterGeneric, x_enterPlace, x_frameCount, x_operatorCount, x_valueCount, x_lineClass, x_lineLength, x_isSealed, x_classHasSlot, x_classSlot, x_superDraft, x_objectClass, x_objectHasSlot, x_objectSlot, x_parameterCount, x_methodGeneric, x_specialiser, x_tokenKind, x_tokenValue, x_tokenCount, x_argument, x_rank, x_orderPlace, x_frameMethod, x_framePlace, x_frameToken, x_frameOperators, x_frameArgument, x_operatorKind, x_operatorValue, x_operatorLeft, x_workedOut) (nI k) (nI i)) (hok : mg_ok E ln ns nc) (hinv : mg_inv E ln ns T G) (hk : k ≤ ns) (hp : post (bs_ci (G k < ln k) (nI (E k (G k))) (-1))) : wpX_firstOfList post (x_classCount, nI ns, x_objectCount, x_draftSpecialCount, x_state, x_stepCount, x_latestValue, x_enterGeneric, x_enterPlace, x_frameCount, x_operatorCount, x_valueCount, x_lineClass, x_lineLength, x_isSealed, x_classHasSlot, x_classSlot, x_superDraft, x_objectClass, x_objectHasSlot, x_objectSlot, x_parameterCount, x_methodGeneric, x_specialiser, x_tokenKind, x_tokenValue, x_tokenCount, x_argument, x_rank, x_orderPlace, x_frameMethod, x_framePlace, x_frameToken, x_frameOperators, x_frameArgument, x_operatorKind, x_operatorValue, x_operatorLeft, x_workedOut) (nI k) T := by
  have h15 := hok.2.1
  have h16 := hok.2.2.1 k hk
  unfold wpX_firstOfList
  refine loop_0 (σ := Unit) (fun n i _ => wX_firstOfList_2 post (nI k) T x_classCount (nI ns) x_objectCount x_draftSpecialCount x_state x_stepCount x_latestValue x_enterGeneric x_enterPlace x_frameCount x_operatorCount x_valueCount x_lineClass x_lineLength x_isSealed x_classHasSlot x_classSlot x_superDraft x_objectClass x_objectHasSlot x_objectSlot x_parameterCount x_methodGeneric x_specialiser x_tokenKind x_tokenValue x_tokenCount x_argument x_rank x_orderPlace x_frameMethod x_framePlace x_frameToken x_frameOperators x_frameArgument x_operatorKind x_operatorValue x_operatorLeft x_workedOut n (nI i)) (fun i _ => ∀ j, j < i → j < ln k → or_bit T (E k j)) 16 () lt_0 ?_ ?_
  · intro n _ hI
    refine br_t (nI_le (Nat.le_refl _) (by omega)) ?_
    rw [bs_cf (fun z => ?_)] at hp
    · exact hp
    · have h1 := (hinv.1 k hk (G k) z).mp (hI (G k) (by omega) z)
      omega
  · intro n i _ hi hI kk
    refine br_f (nI_ge (b := 16) hi (by omega)) (hLE _ k i hk hi ?_)
    by_cases hil : i < ln k
    · have hE := hok.2.2.2 k hk i hil
      rw [bs_ct hil]
      refine br_f (bs_n1 (by omega)) (br_c (fun z => ?_) (fun z => nm_r (nI_1 i) (kk () (lt_s hI (fun _ => Classical.not_not.mp (fun w => z (or_bit_n.mp w)))))))
      have hnb := or_bit_n.mpr z
      have hG : G k = i := by
        have h1 := hinv.1 k hk i hil
        by_cases c1 : i < G k
        · exact absurd (h1.mpr c1) hnb
        · by_cases c2 : G k < i
          · have h2 := (hinv.1 k hk (G k) (by omega)).mp (hI (G k) c2 (by omega))
            omega
          · omega
      rw [hG, bs_ct hil] at hp
      exact hp
    · rw [bs_cf hil]
      exact br_t rfl (nm_r (nI_1 i) (kk () (lt_s hI (fun z => absurd z hil))))
theorem mx_standsBehind {post : Int32 → Prop} {E : Nat → Nat → Nat} {ln : Nat → Nat} {ns nc c : Nat} {T : Int32} {G : Nat → Nat} (hLE : ∀ (p : Int32 → Prop) (k i : Nat), k ≤ ns → i < 16 → p (bs_ci (i < ln k) (nI (E k i)) (-1)) → wpX_listEntry p (x_classCount, nI ns, x_objectCount, x_draftSpecialCount, x_state, x_stepCount, x_latestValue, x_enterGeneric, x_enterPlace, x_frameCount, x_operatorCount, x_valueCount, x_lineClass, x_lineLength, x_isSealed, x_classHasSlot, x_classSlot, x_superDraft, x_objectClass, x_objectHasSlot, x_objectSlot, x_parameterCount, x_methodGeneric, x_specialiser, x_tokenKind, x_tokenValue, x_tokenCount, x_argument, x_rank, x_orderPlace, x_frameMethod, x_framePlace, x_frameToken, x_frameOperators, x_frameArgument, x_operatorKind, x_operatorValue, x_operatorLeft, x_workedOut) (nI k) (nI i)) (hok : mg_ok E ln ns nc) (hinv : mg_inv E ln ns T G) (hc : c < nc) (h1 : mg_beh E ln ns G c → post 1) (h0 : ¬ mg_beh E ln ns G c → post 0) : wpX_standsBehind post (x_classCount, nI ns, x_objectCount, x_draftSpecialCount, x_state, x_stepCount, x_latestValue, x_enterGeneric, x_enterPlace, x_frameCount, x_operatorCount, x_valueCount, x_lineClass, x_lineLength, x_isSealed, x_classHasSlot, x_classSlot, x_superDraft, x_objectClass, x_objectHasSlot, x_objectSlot, x_parameterCount, x_methodGeneric, x_specialiser, x_tokenKind, x_tokenValue, x_tokenCount, x_argument, x_rank, x_orderPlace, x_frameMethod, x_framePlace, x_frameToken, x_frameOperators, x_frameArgument, x_operatorKind, x_operatorValue, x_operatorLeft, x_workedOut) (nI c) T := by
  have h3 := hok.1
  have h15 := hok.2.1
  unfold wpX_standsBehind
  refine loop_0 (σ := Unit) (fun n k _ => wX_standsBehind_2 post (nI c) T x_classCount (nI ns) x_objectCount x_draftSpecialCount x_state x_stepCount x_latestValue x_enterGeneric x_enterPlace x_frameCount x_operatorCount x_valueCount x_lineClass x_lineLength x_isSealed x_classHasSlot x_classSlot x_superDraft x_objectClass x_objectHasSlot x_objectSlot x_parameterCount x_methodGeneric x_specialiser x_tokenKind x_tokenValue x_tokenCount x_argument x_rank x_orderPlace x_frameMethod x_framePlace x_frameToken x_frameOperators x_frameArgument x_operatorKind x_operatorValue x_operatorLeft x_workedOut n (nI k)) (fun k _ => ∀ k', k' < k → ∀ i, G k' < i → i < ln k' → ¬ E k' i = c) (ns + 1) () lt_0 ?_ ?_
  · intro n _ hI
    refine br_t (nI_lt (by omega) (by omega)) (h0 ?_)
    rintro ⟨k', i, hk', hi1, hi2, e⟩
    exact hI k' (by omega) i hi1 hi2 e
  · intro n k _ hk hI kk
    have hk2 : k ≤ ns := by omega
    have h16 := hok.2.2.1 k hk2
    refine br_f (nI_nlt (by omega) (by omega)) ?_
    refine loop_0 (σ := Int32) (fun n2 i s => wX_standsBehind_16 post (wX_standsBehind_2 post (nI c) T x_classCount (nI ns) x_objectCount x_draftSpecialCount x_state x_stepCount x_latestValue x_enterGeneric x_enterPlace x_frameCount x_operatorCount x_valueCount x_lineClass x_lineLength x_isSealed x_classHasSlot x_classSlot x_superDraft x_objectClass x_objectHasSlot x_objectSlot x_parameterCount x_methodGeneric x_specialiser x_tokenKind x_tokenValue x_tokenCount x_argument x_rank x_orderPlace x_frameMethod x_framePlace x_frameToken x_frameOperators x_frameArgument x_operatorKind x_operatorValue x_operatorLeft x_workedOut n) (nI c) T (nI k) x_classCount (nI ns) x_objectCount x_draftSpecialCount x_state x_stepCount x_latestValue x_enterGeneric x_enterPlace x_frameCount x_operatorCount x_valueCount x_lineClass x_lineLength x_isSealed x_classHasSlot x_classSlot x_superDraft x_objectClass x_objectHasSlot x_objectSlot x_parameterCount x_methodGeneric x_specialiser x_tokenKind x_tokenValue x_tokenCount x_argument x_rank x_orderPlace x_frameMethod x_framePlace x_frameToken x_frameOperators x_frameArgument x_operatorKind x_operatorValue x_operatorLeft x_workedOut n2 s (nI i)) (fun i s => ((s = 0 ∧ ¬ (G k < i ∧ G k < ln k)) ∨ (s = 1 ∧ G k < i ∧ G k < ln k)) ∧ ∀ j, G k < j → j < i → j < ln k → ¬ E k j = c) 16 0 ⟨Or.inl ⟨rfl, by omega⟩, fun j _ hj => by omega⟩ ?_ ?_
    · intro n2 s hJ
      refine br_t (nI_le (Nat.le_refl _) (by omega)) (nm_r (nI_1 k) (kk () (lt_s hI (fun i hi1 hi2 => hJ.2 i hi1 (by omega) hi2))))
    · intro n2 i s hi hJ k2
      refine br_f (nI_ge (b := 16) hi (by omega)) (hLE _ k i hk2 hi ?_)
      have go : (i < ln k → G k < i → ¬ E k i = c) → wX_standsBehind_45 post (wX_standsBehind_2 post (nI c) T x_classCount (nI ns) x_objectCount x_draftSpecialCount x_state x_stepCount x_latestValue x_enterGeneric x_enterPlace x_frameCount x_operatorCount x_valueCount x_lineClass x_lineLength x_isSealed x_classHasSlot x_classSlot x_superDraft x_objectClass x_objectHasSlot x_objectSlot x_parameterCount x_methodGeneric x_specialiser x_tokenKind x_tokenValue x_tokenCount x_argument x_rank x_orderPlace x_frameMethod x_framePlace x_frameToken x_frameOperators x_frameArgument x_operatorKind x_operatorValue x_operatorLeft x_workedOut n) (wX_standsBehind_16 post (wX_standsBehind_2 post (nI c) T x_classCount (nI ns) x_objectCount x_draftSpecialCount x_state x_stepCount x_latestValue x_enterGeneric x_enterPlace x_frameCount x_operatorCount x_valueCount x_lineClass x_lineLength x_isSealed x_classHasSlot x_classSlot x_superDraft x_objectClass x_objectHasSlot x_objectSlot x_parameterCount x_methodGeneric x_specialiser x_tokenKind x_tokenValue x_tokenCount x_argument x_rank x_orderPlace x_frameMethod x_framePlace x_frameToken x_frameOperators x_frameArgument x_operatorKind x_operatorValue x_operatorLeft x_workedOut n) (nI c) T (nI k) x_classCount (nI ns) x_objectCount x_draftSpecialCount x_state x_stepCount x_latestValue x_enterGeneric x_enterPlace x_frameCount x_operatorCount x_valueCount x_lineClass x_lineLength x_isSealed x_classHasSlot x_classSlot x_superDraft x_objectClass x_objectHasSlot x_objectSlot x_parameterCount x_methodGeneric x_specialiser x_tokenKind x_tokenValue x_tokenCount x_argument x_rank x_orderPlace x_frameMethod x_framePlace x_frameToken x_frameOperators x_frameArgument x_operatorKind x_operatorValue x_operatorLeft x_workedOut n2) (nI c) T (nI k) s (nI i) (bs_ci (i < ln k) (nI (E k i)) (-1)) x_classCount (nI ns) x_objectCount x_draftSpecialCount x_state x_stepCount x_latestValue x_enterGeneric x_enterPlace x_frameCount x_operatorCount x_valueCount x_lineClass x_lineLength x_isSealed x_classHasSlot x_classSlot x_superDraft x_objectClass x_objectHasSlot x_objectSlot x_parameterCount x_methodGeneric x_specialiser x_tokenKind x_tokenValue x_tokenCount x_argument x_rank x_orderPlace x_frameMethod x_framePlace x_frameToken x_frameOperators x_frameArgument x_operatorKind x_operatorValue x_operatorLeft x_workedOut := by
        intro hne
        have hj2 : ∀ j, G k < j → j < i + 1 → j < ln k → ¬ E k j = c := by
          intro j hj1 hj2 hj3
          by_cases e : j = i
          · rw [e] at hj1 hj3 ⊢; exact hne hj3 hj1
          · exact hJ.2 j hj1 (by omega) hj3
        by_cases hil : i < ln k
        · rw [bs_ct hil]
          have hE := hok.2.2.2 k hk2 i hil
          have hb := hinv.1 k hk2 i hil
          refine br_f (bs_n1 (by omega)) (br_c (fun z => ?_) (fun z => ?_))
          · have hnb := or_bit_n.mpr z
            refine nm_r (e' := 1) ?_ (nm_r (nI_1 i) (k2 1 ⟨Or.inr ⟨rfl, ?_, ?_⟩, hj2⟩))
            · rcases hJ.1 with ⟨e, _⟩ | ⟨e, _⟩
              · rw [e]; rfl
              · rw [e]; rfl
            · by_cases c1 : i < G k
              · exact absurd (hb.mpr c1) hnb
              · omega
            · by_cases c1 : i < G k
              · exact absurd (hb.mpr c1) hnb
              · omega
          · have hbb : or_bit T (E k i) := Classical.not_not.mp (fun w => z (or_bit_n.mp w))
            have hlt := hb.mp hbb
            refine nm_r (cl_or s) (nm_r (nI_1 i) (k2 s ⟨?_, hj2⟩))
            rcases hJ.1 with ⟨e, h⟩ | ⟨e, h⟩
            · exact Or.inl ⟨e, by omega⟩
            · omega
        · rw [bs_cf hil]
          refine br_t rfl (nm_r (cl_or s) (nm_r (nI_1 i) (k2 s ⟨?_, hj2⟩)))
          rcases hJ.1 with ⟨e, h⟩ | ⟨e, h⟩
          · exact Or.inl ⟨e, by omega⟩
          · exact Or.inr ⟨e, by omega, h.2⟩
      rcases hJ.1 with ⟨rfl, h⟩ | ⟨rfl, h⟩
      · exact br_t rfl (go (fun a b => absurd ⟨b, by omega⟩ h))
      · refine br_f (by decide) (br_c (fun e => ?_) (fun e => go (fun a b z => e (by rw [bs_ct a, z]))))
        by_cases hil : i < ln k
        · rw [bs_ct hil] at e
          have hE := hok.2.2.2 k hk2 i hil
          exact h1 ⟨k, i, hk2, h.1, hil, bs_inj (by omega) (by omega) e⟩
        · rw [bs_cf hil] at e
          exact absurd e.symm (bs_n1 (by omega))
theorem mx_nextOfMerge {post : Int32 → Prop} {E : Nat → Nat → Nat} {ln : Nat → Nat} {ns nc : Nat} {T : Int32} {G : Nat → Nat} (hLE : ∀ (p : Int32 → Prop) (k i : Nat), k ≤ ns → i < 16 → p (bs_ci (i < ln k) (nI (E k i)) (-1)) → wpX_listEntry p (x_classCount, nI ns, x_objectCount, x_draftSpecialCount, x_state, x_stepCount, x_latestValue, x_enterGeneric, x_enterPlace, x_frameCount, x_operatorCount, x_valueCount, x_lineClass, x_lineLength, x_isSealed, x_classHasSlot, x_classSlot, x_superDraft, x_objectClass, x_objectHasSlot, x_objectSlot, x_parameterCount, x_methodGeneric, x_specialiser, x_tokenKind, x_tokenValue, x_tokenCount, x_argument, x_rank, x_orderPlace, x_frameMethod, x_framePlace, x_frameToken, x_frameOperators, x_frameArgument, x_operatorKind, x_operatorValue, x_operatorLeft, x_workedOut) (nI k) (nI i)) (hok : mg_ok E ln ns nc) (hinv : mg_inv E ln ns T G) (hp : post (mg_r E ln ns G)) : wpX_nextOfMerge post (x_classCount, nI ns, x_objectCount, x_draftSpecialCount, x_state, x_stepCount, x_latestValue, x_enterGeneric, x_enterPlace, x_frameCount, x_operatorCount, x_valueCount, x_lineClass, x_lineLength, x_isSealed, x_classHasSlot, x_classSlot, x_superDraft, x_objectClass, x_objectHasSlot, x_objectSlot, x_parameterCount, x_methodGeneric, x_specialiser, x_tokenKind, x_tokenValue, x_tokenCount, x_argument, x_rank, x_orderPlace, x_frameMethod, x_framePlace, x_frameToken, x_frameOperators, x_frameArgument, x_operatorKind, x_operatorValue, x_operatorLeft, x_workedOut) T := by
  have h3 := hok.1
  have h15 := hok.2.1
  unfold wpX_nextOfMerge
  refine loop_0 (σ := Int32) (fun n k s => wX_nextOfMerge_4 post T x_classCount (nI ns) x_objectCount x_draftSpecialCount x_state x_stepCount x_latestValue x_enterGeneric x_enterPlace x_frameCount x_operatorCount x_valueCount x_lineClass x_lineLength x_isSealed x_classHasSlot x_classSlot x_superDraft x_objectClass x_objectHasSlot x_objectSlot x_parameterCount x_methodGeneric x_specialiser x_tokenKind x_tokenValue x_tokenCount x_argument x_rank x_orderPlace x_frameMethod x_framePlace x_frameToken x_frameOperators x_frameArgument x_operatorKind x_operatorValue x_operatorLeft x_workedOut n s (nI k)) (fun k s => (∀ j, j < k → ¬ mg_cd E ln ns G j) ∧ ((s = -1 ∧ ∀ j, j < k → ¬ G j < ln j) ∨ (s = -2 ∧ ∃ j, j < k ∧ G j < ln j))) (ns + 1) (-1) ⟨lt_0, Or.inl ⟨rfl, lt_0⟩⟩ ?_ ?_
  · intro n s hI
    refine br_t (nI_lt (by omega) (by omega)) ?_
    have e : mg_k E ln ns G = ns + 1 := bs_fi_no hI.1
    unfold mg_r mg_h at hp
    rw [e, bs_cf (Nat.lt_irrefl _)] at hp
    rcases hI.2 with ⟨rfl, h⟩ | ⟨rfl, j, hj, h⟩
    · rw [bs_cf (fun ⟨k, hk, z⟩ => h k (by omega) z)] at hp; exact hp
    · rw [bs_ct ⟨j, by omega, h⟩] at hp; exact hp
  · intro n k s hk hI kk
    have hk2 : k ≤ ns := by omega
    refine br_f (nI_nlt (by omega) (by omega)) (mx_firstOfList hLE hok hinv hk2 ?_)
    by_cases hg : G k < ln k
    · rw [bs_ct hg]
      have hE := hok.2.2.2 k hk2 _ hg
      refine br_f (bs_n1 (by omega)) (mx_standsBehind hLE hok hinv hE (fun hb => br_f (by decide) (nm_r (nI_1 k) (kk (-2) ⟨lt_s hI.1 (fun z => z.2 hb), Or.inr ⟨rfl, k, by omega, hg⟩⟩))) (fun hb => br_t rfl ?_))
      have e : mg_k E ln ns G = k := bs_fi_at hk ⟨hg, hb⟩ hI.1
      unfold mg_r mg_h mg_c at hp
      rw [e, bs_ct hk] at hp
      exact hp
    · rw [bs_cf hg]
      refine br_t rfl (nm_r (nI_1 k) (kk s ⟨lt_s hI.1 (fun z => hg z.1), ?_⟩))
      rcases hI.2 with ⟨e, h⟩ | ⟨e, j, hj, h⟩
      · exact Or.inl ⟨e, lt_s h hg⟩
      · exact Or.inr ⟨e, j, by omega, h⟩
theorem mx_mergeLine {post : Int32 → SX → Prop} {nc ns : Nat} (hcls : rl_cls nc x_lineClass x_lineLength) (h15 : nc ≤ 15) (hsup : rl_sup nc ns x_superDraft)
    (h1 : (∀ k, k ≤ ns → ¬ mg_G (mg_E x_superDraft x_lineClass ns) (mg_l x_superDraft x_lineLength ns) ns (mg_N (mg_E x_superDraft x_lineClass ns) (mg_l x_superDraft x_lineLength ns) ns) k < mg_l x_superDraft x_lineLength ns k) → post 1 (nI nc, nI ns, x_objectCount, x_draftSpecialCount, x_state, x_stepCount, x_latestValue, x_enterGeneric, x_enterPlace, x_frameCount, x_operatorCount, x_valueCount, mg_ln (mg_E x_superDraft x_lineClass ns) (mg_l x_superDraft x_lineLength ns) ns nc x_lineClass (mg_N (mg_E x_superDraft x_lineClass ns) (mg_l x_superDraft x_lineLength ns) ns), upd x_lineLength nc (nI (mg_N (mg_E x_superDraft x_lineClass ns) (mg_l x_superDraft x_lineLength ns) ns + 1)), x_isSealed, x_classHasSlot, x_classSlot, x_superDraft, x_objectClass, x_objectHasSlot, x_objectSlot, x_parameterCount, x_methodGeneric, x_specialiser, x_tokenKind, x_tokenValue, x_tokenCount, x_argument, x_rank, x_orderPlace, x_frameMethod, x_framePlace, x_frameToken, x_frameOperators, x_frameArgument, x_operatorKind, x_operatorValue, x_operatorLeft, x_workedOut))
    (h0 : (∃ k, k ≤ ns ∧ mg_G (mg_E x_superDraft x_lineClass ns) (mg_l x_superDraft x_lineLength ns) ns (mg_N (mg_E x_superDraft x_lineClass ns) (mg_l x_superDraft x_lineLength ns) ns) k < mg_l x_superDraft x_lineLength ns k) → post 0 (nI nc, nI ns, x_objectCount, x_draftSpecialCount, x_state, x_stepCount, x_latestValue, x_enterGeneric, x_enterPlace, x_frameCount, x_operatorCount, x_valueCount, mg_ln (mg_E x_superDraft x_lineClass ns) (mg_l x_superDraft x_lineLength ns) ns nc x_lineClass (mg_N (mg_E x_superDraft x_lineClass ns) (mg_l x_superDraft x_lineLength ns) ns), upd x_lineLength nc (nI (mg_N (mg_E x_superDraft x_lineClass ns) (mg_l x_superDraft x_lineLength ns) ns + 1)), x_isSealed, x_classHasSlot, x_classSlot, x_superDraft, x_objectClass, x_objectHasSlot, x_objectSlot, x_parameterCount, x_methodGeneric, x_specialiser, x_tokenKind, x_tokenValue, x_tokenCount, x_argument, x_rank, x_orderPlace, x_frameMethod, x_framePlace, x_frameToken, x_frameOperators, x_frameArgument, x_operatorKind, x_operatorValue, x_operatorLeft, x_workedOut)) : wpX_mergeLine post (nI nc, nI ns, x_objectCount, x_draftSpecialCount, x_state, x_stepCount, x_latestValue, x_enterGeneric, x_enterPlace, x_frameCount, x_operatorCount, x_valueCount, x_lineClass, x_lineLength, x_isSealed, x_classHasSlot, x_classSlot, x_superDraft, x_objectClass, x_objectHasSlot, x_objectSlot, x_parameterCount, x_methodGeneric, x_specialiser, x_tokenKind, x_tokenValue, x_tokenCount, x_argument, x_rank, x_orderPlace, x_frameMethod, x_framePlace, x_frameToken, x_frameOperators, x_frameArgument, x_operatorKind, x_operatorValue, x_operatorLeft, x_workedOut) := by
  have hok := mg_okL hcls h15 hsup
  have hLE : ∀ q (p : Int32 → Prop) (k i : Nat), k ≤ ns → i < 16 → p (bs_ci (i < mg_l x_superDraft x_lineLength ns k) (nI (mg_E x_superDraft x_lineClass ns k i)) (-1)) → wpX_listEntry p (nI nc, nI ns, x_objectCount, x_draftSpecialCount, x_state, x_stepCount, x_latestValue, x_enterGeneric, x_enterPlace, x_frameCount, x_operatorCount, x_valueCount, mg_ln (mg_E x_superDraft x_lineClass ns) (mg_l x_superDraft x_lineLength ns) ns nc x_lineClass q, x_lineLength, x_isSealed, x_classHasSlot, x_classSlot, x_superDraft, x_objectClass, x_objectHasSlot, x_objectSlot, x_parameterCount, x_methodGeneric, x_specialiser, x_tokenKind, x_tokenValue, x_tokenCount, x_argument, x_rank, x_orderPlace, x_frameMethod, x_framePlace, x_frameToken, x_frameOperators, x_frameArgument, x_operatorKind, x_operatorValue, x_operatorLeft, x_workedOut) (nI k) (nI i) :=
    fun q p k i hk hi hp => mx_listEntry hcls h15 hsup (fun j hj => mg_ln_lo q j hj) hk hi hp
  generalize hE : mg_E x_superDraft x_lineClass ns = E at hok hLE h0 h1
  generalize hl : mg_l x_superDraft x_lineLength ns = ln at hok hLE h0 h1
  have hN := mg_Nle hok
  unfold wpX_mergeLine
  refine nm_r (bs_lm 16 nc) ⟨pk_in (16 * nc) 256 (by omega), nm_r (e' := mg_ln E ln ns nc x_lineClass 0) (by rw [bs_clk (by omega)]; rfl) (mx_nextOfMerge (hLE 0) hok (mg_all hok 0 (Nat.zero_le _)).1 ?_)⟩
  have key : ∀ d q, q + d = mg_N E ln ns → wX_mergeLine_29 post (nI (16 * nc)) (nI nc) (nI ns) x_objectCount x_draftSpecialCount x_state x_stepCount x_latestValue x_enterGeneric x_enterPlace x_frameCount x_operatorCount x_valueCount (d + 1) (mg_T E ln ns q) (mg_r E ln ns (mg_G E ln ns q)) (nI (q + 1)) (mg_ln E ln ns nc x_lineClass q) x_lineLength x_isSealed x_classHasSlot x_classSlot x_superDraft x_objectClass x_objectHasSlot x_objectSlot x_parameterCount x_methodGeneric x_specialiser x_tokenKind x_tokenValue x_tokenCount x_argument x_rank x_orderPlace x_frameMethod x_framePlace x_frameToken x_frameOperators x_frameArgument x_operatorKind x_operatorValue x_operatorLeft x_workedOut := by
    intro d
    induction d with
    | zero =>
      intro q hq
      have eq : q = mg_N E ln ns := by omega
      subst eq
      have hno := mg_Nno hok
      have fin : wX_mergeLine_68 post (mg_r E ln ns (mg_G E ln ns (mg_N E ln ns))) (nI (mg_N E ln ns + 1)) (nI nc) (nI ns) x_objectCount x_draftSpecialCount x_state x_stepCount x_latestValue x_enterGeneric x_enterPlace x_frameCount x_operatorCount x_valueCount (mg_ln E ln ns nc x_lineClass (mg_N E ln ns)) x_lineLength x_isSealed x_classHasSlot x_classSlot x_superDraft x_objectClass x_objectHasSlot x_objectSlot x_parameterCount x_methodGeneric x_specialiser x_tokenKind x_tokenValue x_tokenCount x_argument x_rank x_orderPlace x_frameMethod x_framePlace x_frameToken x_frameOperators x_frameArgument x_operatorKind x_operatorValue x_operatorLeft x_workedOut := by
        refine ⟨pk_in nc 16 (by omega), nm_r (e' := upd x_lineLength nc (nI (mg_N E ln ns + 1))) (by rw [bs_clk (by omega)]) ?_⟩
        unfold mg_r
        rw [bs_cf hno]
        by_cases z : ∃ k, k ≤ ns ∧ mg_G E ln ns (mg_N E ln ns) k < ln k
        · rw [bs_ct z]; exact br_f (by decide) (h0 z)
        · rw [bs_cf z]; exact br_t rfl (h1 (fun k hk w => z ⟨k, hk, w⟩))
      refine br_c (fun _ => fin) (fun _ => br_t ?_ fin)
      unfold mg_r
      rw [bs_cf hno]
      by_cases z : ∃ k, k ≤ ns ∧ mg_G E ln ns (mg_N E ln ns) k < ln k
      · rw [bs_ct z]; decide
      · rw [bs_cf z]; decide
    | succ d ih =>
      intro q hq
      have hh := mg_Nlt (E := E) (ln := ln) (ns := ns) (q := q) (by omega)
      have hst := mg_step hok (mg_all hok q (by omega)).1 hh
      have er : mg_r E ln ns (mg_G E ln ns q) = nI (mg_c E ln ns (mg_G E ln ns q)) := bs_ct hh
      rw [er]
      refine br_f (nI_ge (b := 16) (by omega) (by omega)) (br_f (nI_pos (by omega)) ⟨pk_in (16 * nc + (q + 1)) 256 (by omega) (nI_add _ _), nm_r (e' := mg_ln E ln ns nc x_lineClass (q + 1)) ?_ (nm_r (e' := mg_T E ln ns (q + 1)) rfl ?_)⟩)
      · rw [nI_add, bs_clk (by omega), show 16 * nc + (q + 1) = 16 * nc + 1 + q by omega]
        rfl
      · refine mx_nextOfMerge (hLE (q + 1)) hok (mg_all hok (q + 1) (by omega)).1 (nm_r (nI_1 (q + 1)) ?_)
        exact ih (q + 1) (by omega)
  exact ⟨mg_N E ln ns + 1, key (mg_N E ln ns) 0 (by omega)⟩
end
end
section
/-! the merge in Y -/
def mg_Y (E : Nat → Nat → Nat) (ln : Nat → Nat) (ns : Nat) (ls ll : Nat → Int32) : Prop := (∀ k, k ≤ ns → ∀ i, i < ln k → ls (16 * k + i) = nI (E k i)) ∧ ∀ k, k ≤ ns → ll k = nI (ln k)
def mg_o (ns : Nat) (go : Nat → Int32) (G : Nat → Nat) : Prop := ∀ k, k ≤ ns → go k = nI (G k)
noncomputable def mg_y (E : Nat → Nat → Nat) (ln : Nat → Nat) (ns : Nat) (G : Nat → Nat) : Int32 := bs_ci (mg_h E ln ns G) (nI (mg_c E ln ns G)) (-1)
section
variable {y_classes : Int32} {y_supers : Int32} {y_objects : Int32} {y_specials : Int32} {y_depth : Int32} {y_ops : Int32} {y_held : Int32} {y_fault : Int32} {y_steps : Int32} {y_shownSteps : Int32} {y_result : Int64} {y_line : Nat → Int32} {y_lineLength : Nat → Int32} {y_has : Nat → Int32} {y_sealed : Nat → Int32} {y_initial : Nat → Int32} {y_drafted : Nat → Int32} {y_draftHas : Nat → Int32} {y_draftInitial : Nat → Int32} {y_lists : Nat → Int32} {y_listLength : Nat → Int32} {y_gone : Nat → Int32} {y_classOfObject : Nat → Int32} {y_slots : Nat → Int64} {y_parameters : Nat → Int32} {y_generic : Nat → Int32} {y_single : Nat → Int32} {y_special : Nat → Int64} {y_kind : Nat → Int32} {y_tokens : Nat → Int32} {y_with : Nat → Int32} {y_methodAt : Nat → Int32} {y_pc : Nat → Int32} {y_chosen : Nat → Int32} {y_many : Nat → Int32} {y_reached : Nat → Int32} {y_opsAt : Nat → Int32} {y_broken : Nat → Int32} {y_arguments : Nat → Int64} {y_operands : Nat → Int64} {y_operator : Nat → Int32} {y_got : Nat → Int32}
theorem my_behind {post : Int32 → Prop} {E : Nat → Nat → Nat} {ln : Nat → Nat} {ns nc c : Nat} {G : Nat → Nat} (hok : mg_ok E ln ns nc) (hG : ∀ k, k ≤ ns → G k ≤ ln k) (hY : mg_Y E ln ns y_lists y_listLength) (ho : mg_o ns y_gone G) (hc : c < nc) (h1 : mg_beh E ln ns G c → post 1) (h0 : ¬ mg_beh E ln ns G c → post 0) : wpY_behind post (y_classes, nI ns, y_objects, y_specials, y_depth, y_ops, y_held, y_fault, y_steps, y_shownSteps, y_result, y_line, y_lineLength, y_has, y_sealed, y_initial, y_drafted, y_draftHas, y_draftInitial, y_lists, y_listLength, y_gone, y_classOfObject, y_slots, y_parameters, y_generic, y_single, y_special, y_kind, y_tokens, y_with, y_methodAt, y_pc, y_chosen, y_many, y_reached, y_opsAt, y_broken, y_arguments, y_operands, y_operator, y_got) (nI c) := by
  have h3 := hok.1
  have h15 := hok.2.1
  unfold wpY_behind
  refine loop_0 (σ := Unit) (fun n k _ => wY_behind_2 post (nI c) y_classes (nI ns) y_objects y_specials y_depth y_ops y_held y_fault y_steps y_shownSteps y_result y_line y_lineLength y_has y_sealed y_initial y_drafted y_draftHas y_draftInitial y_lists y_listLength y_gone y_classOfObject y_slots y_parameters y_generic y_single y_special y_kind y_tokens y_with y_methodAt y_pc y_chosen y_many y_reached y_opsAt y_broken y_arguments y_operands y_operator y_got n (nI k)) (fun k _ => ∀ k', k' < k → ∀ i, G k' < i → i < ln k' → ¬ E k' i = c) (ns + 1) () lt_0 ?_ ?_
  · intro n _ hI
    refine br_t (nI_lt (by omega) (by omega)) (h0 ?_)
    rintro ⟨k', i, hk', hi1, hi2, e⟩
    exact hI k' (by omega) i hi1 hi2 e
  · intro n k _ hk hI kk
    have hk2 : k ≤ ns := by omega
    have h16 := hok.2.2.1 k hk2
    have hGk := hG k hk2
    have ell := hY.2 k hk2
    refine br_f (nI_nlt (by omega) (by omega)) ⟨pk_in k 4 (by omega), nm_r (e' := nI (G k + 1)) (by rw [bs_clk (by omega), ho k hk2, nI_1]) ?_⟩
    by_cases hlt : G k + 1 ≤ ln k
    · refine pk_loop (σ := Unit) (fun n2 i _ => wY_behind_19 post (wY_behind_2 post (nI c) y_classes (nI ns) y_objects y_specials y_depth y_ops y_held y_fault y_steps y_shownSteps y_result y_line y_lineLength y_has y_sealed y_initial y_drafted y_draftHas y_draftInitial y_lists y_listLength y_gone y_classOfObject y_slots y_parameters y_generic y_single y_special y_kind y_tokens y_with y_methodAt y_pc y_chosen y_many y_reached y_opsAt y_broken y_arguments y_operands y_operator y_got n) (nI c) (nI k) y_classes (nI ns) y_objects y_specials y_depth y_ops y_held y_fault y_steps y_shownSteps y_result y_line y_lineLength y_has y_sealed y_initial y_drafted y_draftHas y_draftInitial y_lists y_listLength y_gone y_classOfObject y_slots y_parameters y_generic y_single y_special y_kind y_tokens y_with y_methodAt y_pc y_chosen y_many y_reached y_opsAt y_broken y_arguments y_operands y_operator y_got n2 (nI i)) (fun i _ => G k < i ∧ ∀ j, G k < j → j < i → ¬ E k j = c) (ln k) (G k + 1) () hlt ⟨by omega, fun j h1 h2 => by omega⟩ ?_ ?_
      · intro n2 _ hJ
        refine ⟨pk_in k 4 (by omega), ?_⟩
        rw [bs_clk (n := k) (by omega), ell]
        exact br_t (nI_le (Nat.le_refl _) (by omega)) (nm_r (nI_1 k) (kk () (lt_s hI (fun i a b => hJ.2 i a b))))
      · intro n2 i _ hi hJ k2
        refine ⟨pk_in k 4 (by omega), ?_⟩
        rw [bs_clk (n := k) (by omega), ell]
        refine br_f (nI_ge hi (by omega)) ⟨pk_in (16 * k + i) 64 (by omega) (bs_ix 16 k i), ?_⟩
        have hE := hok.2.2.2 k hk2 i hi
        rw [bs_ix 16 k i, bs_clk (n := 16 * k + i) (by omega), hY.1 k hk2 i hi]
        refine pk_eq (E k i) c (fun e => h1 ⟨k, i, hk2, hJ.1, hi, e⟩) (fun e => nm_r (nI_1 i) (k2 () ⟨by have := hJ.1; omega, fun j a b => ?_⟩))
        by_cases ej : j = i
        · rw [ej]; exact e
        · exact hJ.2 j a (by omega)
    · refine ⟨1, pk_in k 4 (by omega), ?_⟩
      rw [bs_clk (n := k) (by omega), ell]
      exact br_t (nI_le (by omega) (by omega)) (nm_r (nI_1 k) (kk () (lt_s hI (fun i a b => by omega))))
theorem my_first {post : Int32 → Prop} {E : Nat → Nat → Nat} {ln : Nat → Nat} {ns nc : Nat} {G : Nat → Nat} (hok : mg_ok E ln ns nc) (hG : ∀ k, k ≤ ns → G k ≤ ln k) (hY : mg_Y E ln ns y_lists y_listLength) (ho : mg_o ns y_gone G) (hp : post (mg_y E ln ns G)) : wpY_first post (y_classes, nI ns, y_objects, y_specials, y_depth, y_ops, y_held, y_fault, y_steps, y_shownSteps, y_result, y_line, y_lineLength, y_has, y_sealed, y_initial, y_drafted, y_draftHas, y_draftInitial, y_lists, y_listLength, y_gone, y_classOfObject, y_slots, y_parameters, y_generic, y_single, y_special, y_kind, y_tokens, y_with, y_methodAt, y_pc, y_chosen, y_many, y_reached, y_opsAt, y_broken, y_arguments, y_operands, y_operator, y_got) := by
  have h3 := hok.1
  have h15 := hok.2.1
  unfold wpY_first
  refine loop_0 (σ := Unit) (fun n k _ => wY_first_2 post y_classes (nI ns) y_objects y_specials y_depth y_ops y_held y_fault y_steps y_shownSteps y_result y_line y_lineLength y_has y_sealed y_initial y_drafted y_draftHas y_draftInitial y_lists y_listLength y_gone y_classOfObject y_slots y_parameters y_generic y_single y_special y_kind y_tokens y_with y_methodAt y_pc y_chosen y_many y_reached y_opsAt y_broken y_arguments y_operands y_operator y_got n (nI k)) (fun k _ => ∀ j, j < k → ¬ mg_cd E ln ns G j) (ns + 1) () lt_0 ?_ ?_
  · intro n _ hI
    refine br_t (nI_lt (by omega) (by omega)) ?_
    have e : mg_k E ln ns G = ns + 1 := bs_fi_no hI
    unfold mg_y mg_h at hp
    rw [e, bs_cf (Nat.lt_irrefl _)] at hp
    exact hp
  · intro n k _ hk hI kk
    have hk2 : k ≤ ns := by omega
    have h16 := hok.2.2.1 k hk2
    have hGk := hG k hk2
    refine br_f (nI_nlt (by omega) (by omega)) ⟨pk_in k 4 (by omega), pk_in k 4 (by omega), ?_⟩
    rw [bs_clk (n := k) (by omega), ho k hk2, hY.2 k hk2]
    refine pk_eq (G k) (ln k) (fun e => nm_r (nI_1 k) (kk () (lt_s hI (fun z => by have := z.1; omega)))) (fun e => ?_)
    have hlt : G k < ln k := by omega
    have hE := hok.2.2.2 k hk2 _ hlt
    refine ⟨pk_in k 4 (by omega), pk_in (16 * k + G k) 64 (by omega) (bs_ix 16 k (G k)), nm_r (e' := nI (E k (G k))) (by rw [bs_ix 16 k (G k), bs_clk (by omega), hY.1 k hk2 _ hlt]) ?_⟩
    refine my_behind hok hG hY ho hE (fun hb => br_f (by decide) (nm_r (nI_1 k) (kk () (lt_s hI (fun z => z.2 hb))))) (fun hb => br_t rfl ?_)
    have e : mg_k E ln ns G = k := bs_fi_at hk ⟨hlt, hb⟩ hI
    unfold mg_y mg_h mg_c at hp
    rw [e, bs_ct hk] at hp
    exact hp
theorem my_m175 {post : Int32 → SY → Prop} {J158 : Int32 → Int32 → (Nat → Int32) → (Nat → Int32) → (Nat → Int32) → (Nat → Int32) → (Nat → Int32) → (Nat → Int32) → (Nat → Int32) → (Nat → Int32) → (Nat → Int32) → (Nat → Int32) → (Nat → Int32) → (Nat → Int32) → (Nat → Int64) → (Nat → Int32) → (Nat → Int32) → (Nat → Int32) → (Nat → Int64) → (Nat → Int32) → (Nat → Int32) → (Nat → Int32) → (Nat → Int32) → (Nat → Int32) → (Nat → Int32) → (Nat → Int32) → (Nat → Int32) → (Nat → Int32) → (Nat → Int32) → (Nat → Int64) → (Nat → Int64) → (Nat → Int32) → (Nat → Int32) → Prop} {x1 : Int32} {E : Nat → Nat → Nat} {ln : Nat → Nat} {ns nc : Nat} {G : Nat → Nat} (hok : mg_ok E ln ns nc) (hG : ∀ k, k ≤ ns → G k ≤ ln k) (hG' : ∀ k, k ≤ ns → mg_g E ln ns G k ≤ ln k) (hcn : mg_c E ln ns G < nc) (hY : mg_Y E ln ns y_lists y_listLength) (ho : mg_o ns y_gone G)
    (h : ∀ go', mg_o ns go' (mg_g E ln ns G) → J158 x1 (mg_y E ln ns (mg_g E ln ns G)) y_line y_lineLength y_has y_sealed y_initial y_drafted y_draftHas y_draftInitial y_lists y_listLength go' y_classOfObject y_slots y_parameters y_generic y_single y_special y_kind y_tokens y_with y_methodAt y_pc y_chosen y_many y_reached y_opsAt y_broken y_arguments y_operands y_operator y_got) : ∃ n, wY_merge_175 post J158 x1 (nI (mg_c E ln ns G)) y_classes (nI ns) y_objects y_specials y_depth y_ops y_held y_fault y_steps y_shownSteps y_result n 0 y_line y_lineLength y_has y_sealed y_initial y_drafted y_draftHas y_draftInitial y_lists y_listLength y_gone y_classOfObject y_slots y_parameters y_generic y_single y_special y_kind y_tokens y_with y_methodAt y_pc y_chosen y_many y_reached y_opsAt y_broken y_arguments y_operands y_operator y_got := by
  have h3 := hok.1
  have h15 := hok.2.1
  refine loop_0 (σ := Nat → Int32) (fun n k s => wY_merge_175 post J158 x1 (nI (mg_c E ln ns G)) y_classes (nI ns) y_objects y_specials y_depth y_ops y_held y_fault y_steps y_shownSteps y_result n (nI k) y_line y_lineLength y_has y_sealed y_initial y_drafted y_draftHas y_draftInitial y_lists y_listLength s y_classOfObject y_slots y_parameters y_generic y_single y_special y_kind y_tokens y_with y_methodAt y_pc y_chosen y_many y_reached y_opsAt y_broken y_arguments y_operands y_operator y_got) (fun k s => (∀ j, j < k → s j = nI (mg_g E ln ns G j)) ∧ ∀ j, k ≤ j → j ≤ ns → s j = nI (G j)) (ns + 1) y_gone ⟨lt_0, fun j _ hj => ho j hj⟩ ?_ ?_
  · intro n s hI
    refine br_t (nI_lt (by omega) (by omega)) ?_
    have ho' : mg_o ns s (mg_g E ln ns G) := fun j hj => hI.1 j (by omega)
    exact my_first hok hG' hY ho' (h s ho')
  · intro n k s hk hI kk
    have hk2 : k ≤ ns := by omega
    have h16 := hok.2.2.1 k hk2
    have hGk := hG k hk2
    have es := hI.2 k (Nat.le_refl _) hk2
    have keep : mg_g E ln ns G k = G k → wY_merge_175 post J158 x1 (nI (mg_c E ln ns G)) y_classes (nI ns) y_objects y_specials y_depth y_ops y_held y_fault y_steps y_shownSteps y_result n (nI (k + 1)) y_line y_lineLength y_has y_sealed y_initial y_drafted y_draftHas y_draftInitial y_lists y_listLength s y_classOfObject y_slots y_parameters y_generic y_single y_special y_kind y_tokens y_with y_methodAt y_pc y_chosen y_many y_reached y_opsAt y_broken y_arguments y_operands y_operator y_got := by
      intro e
      exact kk s ⟨lt_s hI.1 (by rw [es, e]), fun j a b => hI.2 j (by omega) b⟩
    refine br_f (nI_nlt (by omega) (by omega)) ⟨pk_in k 4 (by omega), pk_in k 4 (by omega), ?_⟩
    rw [bs_clk (n := k) (by omega), es, hY.2 k hk2]
    refine pk_le (ln k) (G k) (fun e => nm_r (nI_1 k) (keep (bs_cf (fun z => by omega)))) (fun hlt => ?_)
    have hE := hok.2.2.2 k hk2 _ hlt
    refine ⟨pk_in k 4 (by omega), pk_in (16 * k + G k) 64 (by omega) (bs_ix 16 k (G k)), ?_⟩
    rw [bs_ix 16 k (G k), bs_clk (n := 16 * k + G k) (by omega), hY.1 k hk2 _ hlt]
    refine pk_eq (E k (G k)) (mg_c E ln ns G) (fun e => ⟨pk_in k 4 (by omega), pk_in k 4 (by omega), nm_r (e' := upd s k (nI (mg_g E ln ns G k))) ?_ (nm_r (nI_1 k) (kk _ ⟨fun j hj => ?_, fun j a b => ?_⟩))⟩) (fun e => nm_r (nI_1 k) (keep (bs_cf (fun z => e z.2))))
    · have e2 : mg_g E ln ns G k = G k + 1 := bs_ct ⟨hlt, e⟩
      rw [e2, nI_1, bs_vb8 (by omega)]
    · by_cases ej : j = k
      · rw [ej, pk_us]
      · rw [pk_un ej]; exact hI.1 j (by omega)
    · rw [pk_un (by omega)]; exact hI.2 j (by omega) b
theorem my_m158 {post : Int32 → SY → Prop} {E : Nat → Nat → Nat} {ln : Nat → Nat} {ns nc : Nat} (hok : mg_ok E ln ns nc) (hY : mg_Y E ln ns y_lists y_listLength)
    (h1 : (∀ k, k ≤ ns → ¬ mg_G E ln ns (mg_N E ln ns) k < ln k) → ∀ go, post 1 (nI nc, nI ns, y_objects, y_specials, y_depth, y_ops, y_held, y_fault, y_steps, y_shownSteps, y_result, mg_ln E ln ns nc y_line (mg_N E ln ns), upd y_lineLength nc (nI (mg_N E ln ns + 1)), y_has, y_sealed, y_initial, y_drafted, y_draftHas, y_draftInitial, y_lists, y_listLength, go, y_classOfObject, y_slots, y_parameters, y_generic, y_single, y_special, y_kind, y_tokens, y_with, y_methodAt, y_pc, y_chosen, y_many, y_reached, y_opsAt, y_broken, y_arguments, y_operands, y_operator, y_got))
    (h0 : (∃ k, k ≤ ns ∧ mg_G E ln ns (mg_N E ln ns) k < ln k) → ∀ go, post 0 (nI nc, nI ns, y_objects, y_specials, y_depth, y_ops, y_held, y_fault, y_steps, y_shownSteps, y_result, mg_ln E ln ns nc y_line (mg_N E ln ns), upd y_lineLength nc (nI (mg_N E ln ns + 1)), y_has, y_sealed, y_initial, y_drafted, y_draftHas, y_draftInitial, y_lists, y_listLength, go, y_classOfObject, y_slots, y_parameters, y_generic, y_single, y_special, y_kind, y_tokens, y_with, y_methodAt, y_pc, y_chosen, y_many, y_reached, y_opsAt, y_broken, y_arguments, y_operands, y_operator, y_got)) : ∀ d q go, q + d = mg_N E ln ns → mg_o ns go (mg_G E ln ns q) → wY_merge_158 post (nI nc) (nI ns) y_objects y_specials y_depth y_ops y_held y_fault y_steps y_shownSteps y_result (d + 1) (nI (16 * nc + 1 + q)) (mg_y E ln ns (mg_G E ln ns q)) (mg_ln E ln ns nc y_line q) y_lineLength y_has y_sealed y_initial y_drafted y_draftHas y_draftInitial y_lists y_listLength go y_classOfObject y_slots y_parameters y_generic y_single y_special y_kind y_tokens y_with y_methodAt y_pc y_chosen y_many y_reached y_opsAt y_broken y_arguments y_operands y_operator y_got := by
  have h3 := hok.1
  have h15 := hok.2.1
  have hN := mg_Nle hok
  intro d
  induction d with
  | zero =>
    intro q go hq ho
    have eq : q = mg_N E ln ns := by omega
    subst eq
    have hno := mg_Nno hok
    have hGl := (mg_all hok _ (Nat.le_refl _)).1.2
    have er : mg_y E ln ns (mg_G E ln ns (mg_N E ln ns)) = -1 := bs_cf hno
    rw [er]
    refine br_t (by decide) ⟨pk_in nc 16 (by omega), nm_r (e' := upd y_lineLength nc (nI (mg_N E ln ns + 1))) ?_ ?_⟩
    · rw [bs_clk (by omega), bs_ml 16 nc, pk_sub (by omega), show 16 * nc + 1 + mg_N E ln ns - 16 * nc = mg_N E ln ns + 1 by omega, bs_vb8 (by omega)]
    · refine loop_0 (σ := Unit) (fun n k _ => wY_merge_264 post (nI nc) (nI ns) y_objects y_specials y_depth y_ops y_held y_fault y_steps y_shownSteps y_result (mg_ln E ln ns nc y_line (mg_N E ln ns)) (upd y_lineLength nc (nI (mg_N E ln ns + 1))) y_has y_sealed y_initial y_drafted y_draftHas y_draftInitial y_lists y_listLength go y_classOfObject y_slots y_parameters y_generic y_single y_special y_kind y_tokens y_with y_methodAt y_pc y_chosen y_many y_reached y_opsAt y_broken y_arguments y_operands y_operator y_got n (nI k)) (fun k _ => ∀ j, j < k → ¬ mg_G E ln ns (mg_N E ln ns) j < ln j) (ns + 1) () lt_0 ?_ ?_
      · intro n _ hI
        exact br_t (nI_lt (by omega) (by omega)) (h1 (fun k hk => hI k (by omega)) go)
      · intro n k _ hk hI kk
        have hk2 : k ≤ ns := by omega
        have h16 := hok.2.2.1 k hk2
        have hGk := hGl k hk2
        refine br_f (nI_nlt (by omega) (by omega)) ⟨pk_in k 4 (by omega), pk_in k 4 (by omega), ?_⟩
        rw [bs_clk (n := k) (by omega), ho k hk2, hY.2 k hk2]
        exact pk_le (ln k) _ (fun e => nm_r (nI_1 k) (kk () (lt_s hI (by omega)))) (fun e => h0 ⟨k, hk2, e⟩ go)
  | succ d ih =>
    intro q go hq ho
    have hh := mg_Nlt (E := E) (ln := ln) (ns := ns) (q := q) (by omega)
    have ha := (mg_all hok q (by omega)).1
    have hst := mg_step hok ha hh
    have er : mg_y E ln ns (mg_G E ln ns q) = nI (mg_c E ln ns (mg_G E ln ns q)) := bs_ct hh
    rw [er]
    have hcn := hst.2.2
    refine br_f (nI_pos (by omega)) (nm_r (nI_1 _) ⟨pk_in (16 * nc + 1 + q) 256 (by omega), nm_r (e' := mg_ln E ln ns nc y_line (q + 1)) ?_ ?_⟩)
    · rw [bs_clk (by omega), bs_vb8 (by omega)]
      rfl
    · refine my_m175 hok ha.2 hst.1.2 hcn hY ho (fun go' ho' => ?_)
      exact ih (q + 1) go' (by omega) ho'
theorem my_merge {post : Int32 → SY → Prop} {nc ns : Nat} (hcls : rl_cls nc y_line y_lineLength) (h15 : nc ≤ 15) (hsup : rl_sup nc ns y_drafted)
    (h1 : (∀ k, k ≤ ns → ¬ mg_G (mg_E y_drafted y_line ns) (mg_l y_drafted y_lineLength ns) ns (mg_N (mg_E y_drafted y_line ns) (mg_l y_drafted y_lineLength ns) ns) k < mg_l y_drafted y_lineLength ns k) → ∀ ls ll go, post 1 (nI nc, nI ns, y_objects, y_specials, y_depth, y_ops, y_held, y_fault, y_steps, y_shownSteps, y_result, mg_ln (mg_E y_drafted y_line ns) (mg_l y_drafted y_lineLength ns) ns nc y_line (mg_N (mg_E y_drafted y_line ns) (mg_l y_drafted y_lineLength ns) ns), upd y_lineLength nc (nI (mg_N (mg_E y_drafted y_line ns) (mg_l y_drafted y_lineLength ns) ns + 1)), y_has, y_sealed, y_initial, y_drafted, y_draftHas, y_draftInitial, ls, ll, go, y_classOfObject, y_slots, y_parameters, y_generic, y_single, y_special, y_kind, y_tokens, y_with, y_methodAt, y_pc, y_chosen, y_many, y_reached, y_opsAt, y_broken, y_arguments, y_operands, y_operator, y_got))
    (h0 : (∃ k, k ≤ ns ∧ mg_G (mg_E y_drafted y_line ns) (mg_l y_drafted y_lineLength ns) ns (mg_N (mg_E y_drafted y_line ns) (mg_l y_drafted y_lineLength ns) ns) k < mg_l y_drafted y_lineLength ns k) → ∀ ls ll go, post 0 (nI nc, nI ns, y_objects, y_specials, y_depth, y_ops, y_held, y_fault, y_steps, y_shownSteps, y_result, mg_ln (mg_E y_drafted y_line ns) (mg_l y_drafted y_lineLength ns) ns nc y_line (mg_N (mg_E y_drafted y_line ns) (mg_l y_drafted y_lineLength ns) ns), upd y_lineLength nc (nI (mg_N (mg_E y_drafted y_line ns) (mg_l y_drafted y_lineLength ns) ns + 1)), y_has, y_sealed, y_initial, y_drafted, y_draftHas, y_draftInitial, ls, ll, go, y_classOfObject, y_slots, y_parameters, y_generic, y_single, y_special, y_kind, y_tokens, y_with, y_methodAt, y_pc, y_chosen, y_many, y_reached, y_opsAt, y_broken, y_arguments, y_operands, y_operator, y_got)) : wpY_merge post (nI nc, nI ns, y_objects, y_specials, y_depth, y_ops, y_held, y_fault, y_steps, y_shownSteps, y_result, y_line, y_lineLength, y_has, y_sealed, y_initial, y_drafted, y_draftHas, y_draftInitial, y_lists, y_listLength, y_gone, y_classOfObject, y_slots, y_parameters, y_generic, y_single, y_special, y_kind, y_tokens, y_with, y_methodAt, y_pc, y_chosen, y_many, y_reached, y_opsAt, y_broken, y_arguments, y_operands, y_operator, y_got) := by
  have hok := mg_okL hcls h15 hsup
  have h3 := hsup.1
  unfold wpY_merge
  refine loop_0 (σ := (Nat → Int32) × (Nat → Int32)) (fun n k s => wY_merge_2 post (nI nc) (nI ns) y_objects y_specials y_depth y_ops y_held y_fault y_steps y_shownSteps y_result n (nI k) y_line y_lineLength y_has y_sealed y_initial y_drafted y_draftHas y_draftInitial s.1 s.2 y_gone y_classOfObject y_slots y_parameters y_generic y_single y_special y_kind y_tokens y_with y_methodAt y_pc y_chosen y_many y_reached y_opsAt y_broken y_arguments y_operands y_operator y_got) (fun k s => ∀ k', k' < k → (∀ i, i < mg_l y_drafted y_lineLength ns k' → s.1 (16 * k' + i) = nI (mg_E y_drafted y_line ns k' i)) ∧ s.2 k' = nI (mg_l y_drafted y_lineLength ns k') ∧ s.1 (16 * ns + k') = nI (mg_E y_drafted y_line ns ns k')) ns (y_lists, y_listLength) lt_0 ?_ ?_
  · rintro n ⟨ls, ll⟩ hI
    dsimp only at hI
    have elns : mg_l y_drafted y_lineLength ns ns = ns := if_pos rfl
    refine br_t (nI_le (Nat.le_refl _) (by omega)) ⟨pk_in ns 4 (by omega), nm_r (e' := upd ll ns (nI ns)) (by rw [bs_clk (by omega), bs_vb8 (by omega)]) ?_⟩
    have hY : mg_Y (mg_E y_drafted y_line ns) (mg_l y_drafted y_lineLength ns) ns ls (upd ll ns (nI ns)) := by
      refine ⟨fun k hk i hi => ?_, fun k hk => ?_⟩
      · by_cases e : k = ns
        · rw [e] at hi ⊢
          rw [elns] at hi
          exact (hI i hi).2.2
        · exact (hI k (by omega)).1 i hi
      · by_cases e : k = ns
        · rw [e, pk_us, elns]
        · rw [pk_un e]; exact (hI k (by omega)).2.1
    refine loop_0 (σ := Nat → Int32) (fun n k s => wY_merge_110 post (nI nc) (nI ns) y_objects y_specials y_depth y_ops y_held y_fault y_steps y_shownSteps y_result n (nI k) y_line y_lineLength y_has y_sealed y_initial y_drafted y_draftHas y_draftInitial ls (upd ll ns (nI ns)) s y_classOfObject y_slots y_parameters y_generic y_single y_special y_kind y_tokens y_with y_methodAt y_pc y_chosen y_many y_reached y_opsAt y_broken y_arguments y_operands y_operator y_got) (fun k s => ∀ j, j < k → s j = 0) (ns + 1) y_gone lt_0 ?_ ?_
    · intro n go hgo
      have ho : mg_o ns go (mg_G (mg_E y_drafted y_line ns) (mg_l y_drafted y_lineLength ns) ns 0) := fun j hj => hgo j (by omega)
      refine br_t (nI_lt (by omega) (by omega)) (nm_r (bs_ml 16 nc) (nm_r (nI_1 _) ⟨pk_in (16 * nc) 256 (by omega), nm_r (e' := mg_ln (mg_E y_drafted y_line ns) (mg_l y_drafted y_lineLength ns) ns nc y_line 0) (by rw [bs_clk (by omega), bs_vb8 (by omega)]; rfl) ?_⟩))
      refine my_first hok (fun k _ => Nat.zero_le _) hY ho ⟨mg_N (mg_E y_drafted y_line ns) (mg_l y_drafted y_lineLength ns) ns + 1, ?_⟩
      exact my_m158 hok hY (fun h go => h1 h ls _ go) (fun h go => h0 h ls _ go) _ 0 go (by omega) ho
    · intro n k s hk hI2 kk
      refine br_f (nI_nlt (by omega) (by omega)) ⟨pk_in k 4 (by omega), nm_r (e' := upd s k 0) (by rw [bs_clk (by omega), bs_v0]) (nm_r (nI_1 k) (kk _ (fun j hj => ?_)))⟩
      by_cases e : j = k
      · rw [e, pk_us]
      · rw [pk_un e]; exact hI2 j (by omega)
  · rintro n k ⟨ls, ll⟩ hk hI kk
    dsimp only at hI
    obtain ⟨c, hc, ec⟩ := hsup.2 k hk
    obtain ⟨l, hl, el, hkk⟩ := hcls.2.2 c hc
    have elk : mg_l y_drafted y_lineLength ns k = l := by
      unfold mg_l
      rw [if_neg (by omega), ec, bs_clk (by omega), el, bs_clk (by omega)]
    have eEk : ∀ i, i < l → y_line (16 * c + i) = nI (mg_E y_drafted y_line ns k i) := by
      intro i hi
      obtain ⟨e2, he2, ee2⟩ := hkk i hi
      unfold mg_E
      rw [if_neg (by omega), ec, bs_clk (by omega), ee2, bs_clk (by omega)]
    have eEns : mg_E y_drafted y_line ns ns k = c := by
      unfold mg_E
      rw [if_pos rfl, ec, bs_clk (by omega)]
    have ek : y_drafted (nI k).toNatClampNeg = nI c := by rw [bs_clk (by omega)]; exact ec
    refine br_f (nI_ge hk (by omega)) ?_
    refine loop_0 (σ := Nat → Int32) (fun n2 i s => wY_merge_12 post (wY_merge_2 post (nI nc) (nI ns) y_objects y_specials y_depth y_ops y_held y_fault y_steps y_shownSteps y_result n) (nI k) (nI nc) (nI ns) y_objects y_specials y_depth y_ops y_held y_fault y_steps y_shownSteps y_result n2 (nI i) y_line y_lineLength y_has y_sealed y_initial y_drafted y_draftHas y_draftInitial s ll y_gone y_classOfObject y_slots y_parameters y_generic y_single y_special y_kind y_tokens y_with y_methodAt y_pc y_chosen y_many y_reached y_opsAt y_broken y_arguments y_operands y_operator y_got) (fun i s => (∀ j, (j < 16 * k ∨ 16 * k + 16 ≤ j) → s j = ls j) ∧ ∀ i', i' < i → i' < l → s (16 * k + i') = nI (mg_E y_drafted y_line ns k i')) 16 ls ⟨fun _ _ => rfl, lt_0⟩ ?_ ?_
    · intro n2 s hJ
      refine br_t (nI_le (Nat.le_refl _) (by omega)) ⟨pk_in k 3 (by omega), ?_⟩
      rw [ek]
      refine ⟨pk_in c 16 (by omega), pk_in k 4 (by omega), nm_r (e' := upd ll k (nI l)) (by rw [bs_clk (n := k) (by omega), bs_clk (n := c) (by omega), el, bs_vb (by omega)]) ⟨pk_in k 3 (by omega), pk_in (16 * ns + k) 64 (by omega) (bs_ix 16 ns k), nm_r (e' := upd s (16 * ns + k) (nI c)) (by rw [bs_ix 16 ns k, bs_clk (by omega), bs_vb (by omega)]) (nm_r (nI_1 k) (kk (upd s (16 * ns + k) (nI c), upd ll k (nI l)) (fun k' hk' => ?_)))⟩⟩
      dsimp only
      by_cases e : k' = k
      · subst e
        rw [pk_us, pk_us, elk, eEns]
        refine ⟨fun i hi => ?_, rfl, rfl⟩
        rw [pk_un (by omega)]
        exact hJ.2 i (by omega) hi
      · obtain ⟨a1, a2, a3⟩ := hI k' (by omega)
        have h16 := hok.2.2.1 k' (by omega)
        refine ⟨fun i hi => ?_, ?_, ?_⟩
        · rw [pk_un (by omega), hJ.1 _ (by omega)]; exact a1 i hi
        · rw [pk_un e]; exact a2
        · rw [pk_un (by omega), hJ.1 _ (by omega)]; exact a3
    · intro n2 i s hi hJ k2
      refine br_f (nI_ge (b := 16) hi (by omega)) ⟨pk_in k 3 (by omega), ?_⟩
      rw [ek]
      refine ⟨pk_in (16 * c + i) 256 (by omega) (bs_ix 16 c i), pk_in (16 * k + i) 64 (by omega) (bs_ix 16 k i), nm_r (e' := upd s (16 * k + i) (vp_nar .byte (y_line (16 * c + i)))) (by rw [bs_ix 16 c i, bs_ix 16 k i, bs_clk (by omega), bs_clk (by omega)]) (nm_r (nI_1 i) (k2 (upd s (16 * k + i) (vp_nar .byte (y_line (16 * c + i)))) ⟨fun j hj => ?_, fun i' hi' hl' => ?_⟩))⟩
      · rw [pk_un (by omega)]; exact hJ.1 j hj
      · by_cases e : i' = i
        · rw [e] at hl' ⊢
          obtain ⟨e2, he2, ee2⟩ := hkk i hl'
          rw [pk_us, ← eEk i hl', ee2, bs_vb (by omega)]
        · rw [pk_un (by omega)]; exact hJ.2 i' (by omega) hl'
end
end
section
/-! define -/
def de_z (CH : Nat → Int32) (b i : Nat) : Nat → Int32 := fun j => if b ≤ j ∧ j < b + i then 0 else CH j
theorem de_z0 (CH : Nat → Int32) (b : Nat) : CH = de_z CH b 0 := by
  funext j
  exact (if_neg (by omega)).symm
theorem de_zs (CH : Nat → Int32) (b i : Nat) : upd (de_z CH b i) (b + i) 0 = de_z CH b (i + 1) := by
  funext j
  unfold de_z
  by_cases e : j = b + i
  · rw [e, pk_us, if_pos (by omega)]
  · rw [pk_un e]
    by_cases h : b ≤ j ∧ j < b + i
    · rw [if_pos h, if_pos (by omega)]
    · rw [if_neg h, if_neg (by omega)]
theorem de_or {a b : Int32} : a ||| b = 0 ↔ a = 0 ∧ b = 0 := by
  constructor
  · intro h
    have key : ∀ i, (bt a i || bt b i) = false := by
      intro i
      rw [← b_or, h, b_0]
    refine ⟨b_ext (fun i _ => ?_), b_ext (fun i _ => ?_)⟩
    · rw [b_0]
      have := key i
      cases ha : bt a i
      · rfl
      · rw [ha] at this; exact this
    · rw [b_0]
      have := key i
      cases hb : bt b i
      · rfl
      · rw [hb, Bool.or_true] at this; exact this
  · rintro ⟨rfl, rfl⟩
    rfl
def de_sl (SD IS : Nat → Int32) (ns : Nat) : Prop := ∃ i, i < ns ∧ ¬ IS (SD i).toNatClampNeg = 0
section
variable {x_classCount : Int32} {x_superCount : Int32} {x_objectCount : Int32} {x_draftSpecialCount : Int32} {x_state : Int32} {x_stepCount : Int32} {x_latestValue : Int64} {x_enterGeneric : Int32} {x_enterPlace : Int32} {x_frameCount : Int32} {x_operatorCount : Int32} {x_valueCount : Int32} {x_lineClass : Nat → Int32} {x_lineLength : Nat → Int32} {x_isSealed : Nat → Int32} {x_classHasSlot : Nat → Int32} {x_classSlot : Nat → Int32} {x_superDraft : Nat → Int32} {x_objectClass : Nat → Int32} {x_objectHasSlot : Nat → Int32} {x_objectSlot : Nat → Int64} {x_parameterCount : Nat → Int32} {x_methodGeneric : Nat → Int32} {x_specialiser : Nat → Int64} {x_tokenKind : Nat → Int32} {x_tokenValue : Nat → Int32} {x_tokenCount : Nat → Int32} {x_argument : Nat → Int64} {x_rank : Nat → Int32} {x_orderPlace : Nat → Int32} {x_frameMethod : Nat → Int32} {x_framePlace : Nat → Int32} {x_frameToken : Nat → Int32} {x_frameOperators : Nat → Int32} {x_frameArgument : Nat → Int64} {x_operatorKind : Nat → Int32} {x_operatorValue : Nat → Int32} {x_operatorLeft : Nat → Int32} {x_workedOut : Nat → Int64} {y_classes : Int32} {y_supers : Int32} {y_objects : Int32} {y_specials : Int32} {y_depth : Int32} {y_ops : Int32} {y_held : Int32} {y_fault : Int32} {y_steps : Int32} {y_shownSteps : Int32} {y_result : Int64} {y_line : Nat → Int32} {y_lineLength : Nat → Int32} {y_has : Nat → Int32} {y_sealed : Nat → Int32} {y_initial : Nat → Int32} {y_drafted : Nat → Int32} {y_draftHas : Nat → Int32} {y_draftInitial : Nat → Int32} {y_lists : Nat → Int32} {y_listLength : Nat → Int32} {y_gone : Nat → Int32} {y_classOfObject : Nat → Int32} {y_slots : Nat → Int64} {y_parameters : Nat → Int32} {y_generic : Nat → Int32} {y_single : Nat → Int32} {y_special : Nat → Int64} {y_kind : Nat → Int32} {y_tokens : Nat → Int32} {y_with : Nat → Int32} {y_methodAt : Nat → Int32} {y_pc : Nat → Int32} {y_chosen : Nat → Int32} {y_many : Nat → Int32} {y_reached : Nat → Int32} {y_opsAt : Nat → Int32} {y_broken : Nat → Int32} {y_arguments : Nat → Int64} {y_operands : Nat → Int64} {y_operator : Nat → Int32} {y_got : Nat → Int32}
theorem mx_isSuperSealed {post : Int32 → Prop} {nc ns : Nat} (hnc : nc ≤ 16) (hsup : rl_sup nc ns x_superDraft) (h1 : de_sl x_superDraft x_isSealed ns → post 1) (h0 : ¬ de_sl x_superDraft x_isSealed ns → post 0) : wpX_isSuperSealed post (x_classCount, nI ns, x_objectCount, x_draftSpecialCount, x_state, x_stepCount, x_latestValue, x_enterGeneric, x_enterPlace, x_frameCount, x_operatorCount, x_valueCount, x_lineClass, x_lineLength, x_isSealed, x_classHasSlot, x_classSlot, x_superDraft, x_objectClass, x_objectHasSlot, x_objectSlot, x_parameterCount, x_methodGeneric, x_specialiser, x_tokenKind, x_tokenValue, x_tokenCount, x_argument, x_rank, x_orderPlace, x_frameMethod, x_framePlace, x_frameToken, x_frameOperators, x_frameArgument, x_operatorKind, x_operatorValue, x_operatorLeft, x_workedOut) := by
  have h3 := hsup.1
  unfold wpX_isSuperSealed
  refine loop_0 (σ := Unit) (fun n i _ => wX_isSuperSealed_2 post x_classCount (nI ns) x_objectCount x_draftSpecialCount x_state x_stepCount x_latestValue x_enterGeneric x_enterPlace x_frameCount x_operatorCount x_valueCount x_lineClass x_lineLength x_isSealed x_classHasSlot x_classSlot x_superDraft x_objectClass x_objectHasSlot x_objectSlot x_parameterCount x_methodGeneric x_specialiser x_tokenKind x_tokenValue x_tokenCount x_argument x_rank x_orderPlace x_frameMethod x_framePlace x_frameToken x_frameOperators x_frameArgument x_operatorKind x_operatorValue x_operatorLeft x_workedOut n (nI i)) (fun i _ => ∀ j, j < i → x_isSealed (x_superDraft j).toNatClampNeg = 0) ns () lt_0 ?_ ?_
  · intro n _ hI
    refine br_t (nI_le (Nat.le_refl _) (by omega)) (h0 ?_)
    rintro ⟨i, hi, z⟩
    exact z (hI i hi)
  · intro n i _ hi hI k
    obtain ⟨c, hc, ec⟩ := hsup.2 i hi
    refine br_f (nI_ge hi (by omega)) ⟨pk_in i 3 (by omega), ?_⟩
    rw [bs_clk (n := i) (by omega)]
    refine ⟨pk_in c 16 (by omega) ec, br_c (fun e => nm_r (nI_1 i) (k () (lt_s hI e))) (fun e => h1 ⟨i, hi, e⟩)⟩
theorem mx_emptySlotDraft {post : SX → Prop} {nc : Nat} (hnc : nc ≤ 16) (hp : post (nI nc, x_superCount, x_objectCount, x_draftSpecialCount, x_state, x_stepCount, x_latestValue, x_enterGeneric, x_enterPlace, x_frameCount, x_operatorCount, x_valueCount, x_lineClass, x_lineLength, x_isSealed, de_z x_classHasSlot (4 * nc) 4, x_classSlot, x_superDraft, x_objectClass, x_objectHasSlot, x_objectSlot, x_parameterCount, x_methodGeneric, x_specialiser, x_tokenKind, x_tokenValue, x_tokenCount, x_argument, x_rank, x_orderPlace, x_frameMethod, x_framePlace, x_frameToken, x_frameOperators, x_frameArgument, x_operatorKind, x_operatorValue, x_operatorLeft, x_workedOut)) : wpX_emptySlotDraft post (nI nc, x_superCount, x_objectCount, x_draftSpecialCount, x_state, x_stepCount, x_latestValue, x_enterGeneric, x_enterPlace, x_frameCount, x_operatorCount, x_valueCount, x_lineClass, x_lineLength, x_isSealed, x_classHasSlot, x_classSlot, x_superDraft, x_objectClass, x_objectHasSlot, x_objectSlot, x_parameterCount, x_methodGeneric, x_specialiser, x_tokenKind, x_tokenValue, x_tokenCount, x_argument, x_rank, x_orderPlace, x_frameMethod, x_framePlace, x_frameToken, x_frameOperators, x_frameArgument, x_operatorKind, x_operatorValue, x_operatorLeft, x_workedOut) := by
  unfold wpX_emptySlotDraft
  refine loop_0 (σ := Nat → Int32) (fun n i s => wX_emptySlotDraft_2 post (nI nc) x_superCount x_objectCount x_draftSpecialCount x_state x_stepCount x_latestValue x_enterGeneric x_enterPlace x_frameCount x_operatorCount x_valueCount n (nI i) x_lineClass x_lineLength x_isSealed s x_classSlot x_superDraft x_objectClass x_objectHasSlot x_objectSlot x_parameterCount x_methodGeneric x_specialiser x_tokenKind x_tokenValue x_tokenCount x_argument x_rank x_orderPlace x_frameMethod x_framePlace x_frameToken x_frameOperators x_frameArgument x_operatorKind x_operatorValue x_operatorLeft x_workedOut) (fun i s => s = de_z x_classHasSlot (4 * nc) i) 4 x_classHasSlot (de_z0 _ _) ?_ ?_
  · rintro n s rfl
    exact br_t (nI_le (Nat.le_refl _) (by omega)) hp
  · rintro n i s hi rfl k
    exact br_f (nI_ge (b := 4) hi (by omega)) ⟨pk_in (4 * nc + i) 68 (by omega) (bs_xi 4 nc i), nm_r (e' := de_z x_classHasSlot (4 * nc) (i + 1)) (by rw [bs_xi 4 nc i, bs_clk (by omega), bs_z0, de_zs]) (nm_r (nI_1 i) (k _ rfl))⟩
theorem mx_def59n {post : Int32 → SX → Prop} {nc ns : Nat} {r : Int32} (hnc : nc ≤ 16) (hr : ¬ 0 ≤ r) (hp : post r (nI nc, 0, x_objectCount, x_draftSpecialCount, x_state, x_stepCount, x_latestValue, x_enterGeneric, x_enterPlace, x_frameCount, x_operatorCount, x_valueCount, x_lineClass, x_lineLength, x_isSealed, de_z x_classHasSlot (4 * nc) 4, x_classSlot, x_superDraft, x_objectClass, x_objectHasSlot, x_objectSlot, x_parameterCount, x_methodGeneric, x_specialiser, x_tokenKind, x_tokenValue, x_tokenCount, x_argument, x_rank, x_orderPlace, x_frameMethod, x_framePlace, x_frameToken, x_frameOperators, x_frameArgument, x_operatorKind, x_operatorValue, x_operatorLeft, x_workedOut)) : wX_define_59 post r (nI nc) x_superCount x_objectCount x_draftSpecialCount x_state x_stepCount x_latestValue x_enterGeneric x_enterPlace x_frameCount x_operatorCount x_valueCount x_lineClass x_lineLength x_isSealed x_classHasSlot x_classSlot x_superDraft x_objectClass x_objectHasSlot x_objectSlot x_parameterCount x_methodGeneric x_specialiser x_tokenKind x_tokenValue x_tokenCount x_argument x_rank x_orderPlace x_frameMethod x_framePlace x_frameToken x_frameOperators x_frameArgument x_operatorKind x_operatorValue x_operatorLeft x_workedOut :=
  br_f hr (mx_emptySlotDraft hnc hp)
theorem mx_def31 {post : Int32 → SX → Prop} {nc ns : Nat} (hcls : rl_cls nc x_lineClass x_lineLength) (h15 : nc ≤ 15) (hsup : rl_sup nc ns x_superDraft)
    (hc : de_sl x_superDraft x_isSealed ns → post (-3) (nI nc, 0, x_objectCount, x_draftSpecialCount, x_state, x_stepCount, x_latestValue, x_enterGeneric, x_enterPlace, x_frameCount, x_operatorCount, x_valueCount, x_lineClass, x_lineLength, x_isSealed, de_z x_classHasSlot (4 * nc) 4, x_classSlot, x_superDraft, x_objectClass, x_objectHasSlot, x_objectSlot, x_parameterCount, x_methodGeneric, x_specialiser, x_tokenKind, x_tokenValue, x_tokenCount, x_argument, x_rank, x_orderPlace, x_frameMethod, x_framePlace, x_frameToken, x_frameOperators, x_frameArgument, x_operatorKind, x_operatorValue, x_operatorLeft, x_workedOut))
    (hb : ¬ de_sl x_superDraft x_isSealed ns → (∃ k, k ≤ ns ∧ mg_G (mg_E x_superDraft x_lineClass ns) (mg_l x_superDraft x_lineLength ns) ns (mg_N (mg_E x_superDraft x_lineClass ns) (mg_l x_superDraft x_lineLength ns) ns) k < mg_l x_superDraft x_lineLength ns k) → post (-2) (nI nc, 0, x_objectCount, x_draftSpecialCount, x_state, x_stepCount, x_latestValue, x_enterGeneric, x_enterPlace, x_frameCount, x_operatorCount, x_valueCount, mg_ln (mg_E x_superDraft x_lineClass ns) (mg_l x_superDraft x_lineLength ns) ns nc x_lineClass (mg_N (mg_E x_superDraft x_lineClass ns) (mg_l x_superDraft x_lineLength ns) ns), upd x_lineLength nc (nI (mg_N (mg_E x_superDraft x_lineClass ns) (mg_l x_superDraft x_lineLength ns) ns + 1)), x_isSealed, de_z x_classHasSlot (4 * nc) 4, x_classSlot, x_superDraft, x_objectClass, x_objectHasSlot, x_objectSlot, x_parameterCount, x_methodGeneric, x_specialiser, x_tokenKind, x_tokenValue, x_tokenCount, x_argument, x_rank, x_orderPlace, x_frameMethod, x_framePlace, x_frameToken, x_frameOperators, x_frameArgument, x_operatorKind, x_operatorValue, x_operatorLeft, x_workedOut))
    (hw : ¬ de_sl x_superDraft x_isSealed ns → (∀ k, k ≤ ns → ¬ mg_G (mg_E x_superDraft x_lineClass ns) (mg_l x_superDraft x_lineLength ns) ns (mg_N (mg_E x_superDraft x_lineClass ns) (mg_l x_superDraft x_lineLength ns) ns) k < mg_l x_superDraft x_lineLength ns k) → post (nI nc) (nI (nc + 1), 0, x_objectCount, x_draftSpecialCount, x_state, x_stepCount, x_latestValue, x_enterGeneric, x_enterPlace, x_frameCount, x_operatorCount, x_valueCount, mg_ln (mg_E x_superDraft x_lineClass ns) (mg_l x_superDraft x_lineLength ns) ns nc x_lineClass (mg_N (mg_E x_superDraft x_lineClass ns) (mg_l x_superDraft x_lineLength ns) ns), upd x_lineLength nc (nI (mg_N (mg_E x_superDraft x_lineClass ns) (mg_l x_superDraft x_lineLength ns) ns + 1)), x_isSealed, x_classHasSlot, x_classSlot, x_superDraft, x_objectClass, x_objectHasSlot, x_objectSlot, x_parameterCount, x_methodGeneric, x_specialiser, x_tokenKind, x_tokenValue, x_tokenCount, x_argument, x_rank, x_orderPlace, x_frameMethod, x_framePlace, x_frameToken, x_frameOperators, x_frameArgument, x_operatorKind, x_operatorValue, x_operatorLeft, x_workedOut)) : wX_define_31 post (nI nc) (nI ns) x_objectCount x_draftSpecialCount x_state x_stepCount x_latestValue x_enterGeneric x_enterPlace x_frameCount x_operatorCount x_valueCount x_lineClass x_lineLength x_isSealed x_classHasSlot x_classSlot x_superDraft x_objectClass x_objectHasSlot x_objectSlot x_parameterCount x_methodGeneric x_specialiser x_tokenKind x_tokenValue x_tokenCount x_argument x_rank x_orderPlace x_frameMethod x_framePlace x_frameToken x_frameOperators x_frameArgument x_operatorKind x_operatorValue x_operatorLeft x_workedOut := by
  refine mx_isSuperSealed (nc := nc) (by omega) hsup (fun h => br_f (by decide) (mx_def59n (ns := ns) (by omega) (by decide) (hc h))) (fun h => br_t rfl ?_)
  refine mx_mergeLine hcls h15 hsup (fun h2 => br_f (by decide) ?_) (fun h2 => br_t rfl (mx_def59n (ns := ns) (by omega) (by decide) (hb h h2)))
  exact br_t (bs_ge0 (by omega)) (nm_r (nI_1 nc) (hw h h2))
theorem my_drop {post : Int32 → SY → Prop} {ns : Nat} (hp : ∀ DH' : Nat → Int32, (∀ n, n < 4 → DH' n = 0) → post (nI ns) (y_classes, 0, y_objects, y_specials, y_depth, y_ops, y_held, y_fault, y_steps, y_shownSteps, y_result, y_line, y_lineLength, y_has, y_sealed, y_initial, y_drafted, DH', y_draftInitial, y_lists, y_listLength, y_gone, y_classOfObject, y_slots, y_parameters, y_generic, y_single, y_special, y_kind, y_tokens, y_with, y_methodAt, y_pc, y_chosen, y_many, y_reached, y_opsAt, y_broken, y_arguments, y_operands, y_operator, y_got)) : wpY_drop post (y_classes, nI ns, y_objects, y_specials, y_depth, y_ops, y_held, y_fault, y_steps, y_shownSteps, y_result, y_line, y_lineLength, y_has, y_sealed, y_initial, y_drafted, y_draftHas, y_draftInitial, y_lists, y_listLength, y_gone, y_classOfObject, y_slots, y_parameters, y_generic, y_single, y_special, y_kind, y_tokens, y_with, y_methodAt, y_pc, y_chosen, y_many, y_reached, y_opsAt, y_broken, y_arguments, y_operands, y_operator, y_got) := by
  unfold wpY_drop
  refine loop_0 (σ := Nat → Int32) (fun n i s => wY_drop_12 post (nI ns) y_classes 0 y_objects y_specials y_depth y_ops y_held y_fault y_steps y_shownSteps y_result n (nI i) y_line y_lineLength y_has y_sealed y_initial y_drafted s y_draftInitial y_lists y_listLength y_gone y_classOfObject y_slots y_parameters y_generic y_single y_special y_kind y_tokens y_with y_methodAt y_pc y_chosen y_many y_reached y_opsAt y_broken y_arguments y_operands y_operator y_got) (fun i s => ∀ n, n < i → s n = 0) 4 y_draftHas lt_0 ?_ ?_
  · intro n s hI
    exact br_t (nI_le (Nat.le_refl _) (by omega)) (hp s hI)
  · intro n i s hi hI k
    refine br_f (nI_ge (b := 4) hi (by omega)) ⟨pk_in i 4 hi, nm_r (e' := upd s i 0) (by rw [bs_clk (by omega), bs_z0]) (nm_r (nI_1 i) (k _ (fun n hn => ?_)))⟩
    by_cases e : n = i
    · rw [e, pk_us]
    · rw [pk_un e]; exact hI n (by omega)
theorem my_def140 {post : Int32 → SY → Prop} {nc ns : Nat} {x1 x2 : Int32} (hs : ¬ x1 = 0 → ∀ DH' : Nat → Int32, (∀ n, n < 4 → DH' n = 0) → post (-3) (nI nc, 0, y_objects, y_specials, y_depth, y_ops, y_held, y_fault, y_steps, y_shownSteps, y_result, y_line, y_lineLength, y_has, y_sealed, y_initial, y_drafted, DH', y_draftInitial, y_lists, y_listLength, y_gone, y_classOfObject, y_slots, y_parameters, y_generic, y_single, y_special, y_kind, y_tokens, y_with, y_methodAt, y_pc, y_chosen, y_many, y_reached, y_opsAt, y_broken, y_arguments, y_operands, y_operator, y_got)) (hb : x1 = 0 → x2 = 0 → ∀ DH' : Nat → Int32, (∀ n, n < 4 → DH' n = 0) → post (-2) (nI nc, 0, y_objects, y_specials, y_depth, y_ops, y_held, y_fault, y_steps, y_shownSteps, y_result, y_line, y_lineLength, y_has, y_sealed, y_initial, y_drafted, DH', y_draftInitial, y_lists, y_listLength, y_gone, y_classOfObject, y_slots, y_parameters, y_generic, y_single, y_special, y_kind, y_tokens, y_with, y_methodAt, y_pc, y_chosen, y_many, y_reached, y_opsAt, y_broken, y_arguments, y_operands, y_operator, y_got)) (hw : x1 = 0 → ¬ x2 = 0 → ∀ DH' : Nat → Int32, (∀ n, n < 4 → DH' n = 0) → post (nI nc) (nI (nc + 1), 0, y_objects, y_specials, y_depth, y_ops, y_held, y_fault, y_steps, y_shownSteps, y_result, y_line, y_lineLength, y_has, y_sealed, y_initial, y_drafted, DH', y_draftInitial, y_lists, y_listLength, y_gone, y_classOfObject, y_slots, y_parameters, y_generic, y_single, y_special, y_kind, y_tokens, y_with, y_methodAt, y_pc, y_chosen, y_many, y_reached, y_opsAt, y_broken, y_arguments, y_operands, y_operator, y_got)) : wY_define_140 post x1 x2 (nI nc) (nI ns) y_objects y_specials y_depth y_ops y_held y_fault y_steps y_shownSteps y_result y_line y_lineLength y_has y_sealed y_initial y_drafted y_draftHas y_draftInitial y_lists y_listLength y_gone y_classOfObject y_slots y_parameters y_generic y_single y_special y_kind y_tokens y_with y_methodAt y_pc y_chosen y_many y_reached y_opsAt y_broken y_arguments y_operands y_operator y_got := by
  refine my_drop (fun DH' hD => ?_)
  exact br_c (fun e => br_c (fun e2 => hb e e2 DH' hD) (fun e2 => nm_r (nI_1 nc) (hw e e2 DH' hD))) (fun e => hs e DH' hD)
def de_cp (nc : Nat) (HA IN DH DI HA' IN' : Nat → Int32) (i : Nat) : Prop := (∀ j, j < 4 * nc → HA' j = HA j ∧ IN' j = IN j) ∧ ∀ n, n < i → HA' (4 * nc + n) = DH n ∧ IN' (4 * nc + n) = DI n
theorem my_def87 {post : Int32 → SY → Prop} {nc ns : Nat} (h15 : nc ≤ 15) (hz : ∀ n, n < 4 → y_draftHas n = 0 ∨ y_draftHas n = 1) (hw : ∀ HA' IN' : Nat → Int32, de_cp nc y_has y_initial y_draftHas y_draftInitial HA' IN' 4 → wY_define_140 post 0 1 (nI nc) (nI ns) y_objects y_specials y_depth y_ops y_held y_fault y_steps y_shownSteps y_result y_line y_lineLength HA' y_sealed IN' y_drafted y_draftHas y_draftInitial y_lists y_listLength y_gone y_classOfObject y_slots y_parameters y_generic y_single y_special y_kind y_tokens y_with y_methodAt y_pc y_chosen y_many y_reached y_opsAt y_broken y_arguments y_operands y_operator y_got) : ∃ n, wY_define_87 post 0 1 (nI nc) (nI ns) y_objects y_specials y_depth y_ops y_held y_fault y_steps y_shownSteps y_result n 0 y_line y_lineLength y_has y_sealed y_initial y_drafted y_draftHas y_draftInitial y_lists y_listLength y_gone y_classOfObject y_slots y_parameters y_generic y_single y_special y_kind y_tokens y_with y_methodAt y_pc y_chosen y_many y_reached y_opsAt y_broken y_arguments y_operands y_operator y_got := by
  refine loop_0 (σ := (Nat → Int32) × (Nat → Int32)) (fun n i s => wY_define_87 post 0 1 (nI nc) (nI ns) y_objects y_specials y_depth y_ops y_held y_fault y_steps y_shownSteps y_result n (nI i) y_line y_lineLength s.1 y_sealed s.2 y_drafted y_draftHas y_draftInitial y_lists y_listLength y_gone y_classOfObject y_slots y_parameters y_generic y_single y_special y_kind y_tokens y_with y_methodAt y_pc y_chosen y_many y_reached y_opsAt y_broken y_arguments y_operands y_operator y_got) (fun i s => de_cp nc y_has y_initial y_draftHas y_draftInitial s.1 s.2 i) 4 (y_has, y_initial) ⟨fun _ _ => ⟨rfl, rfl⟩, lt_0⟩ ?_ ?_
  · intro n s hI
    exact br_t (nI_le (Nat.le_refl _) (by omega)) (hw s.1 s.2 hI)
  · rintro n i ⟨s1, s2⟩ hi hI k
    refine br_f (nI_ge (b := 4) hi (by omega)) (br_f (by decide) ⟨pk_in i 4 hi, pk_in (4 * nc + i) 64 (by omega) (bs_ix 4 nc i), nm_r (e' := upd s1 (4 * nc + i) (y_draftHas i)) (by rw [bs_ix 4 nc i, bs_clk (n := 4 * nc + i) (by omega), bs_clk (n := i) (by omega), bs_z (hz i hi)]) ⟨pk_in i 4 hi, pk_in (4 * nc + i) 64 (by omega) (bs_ix 4 nc i), nm_r (e' := upd s2 (4 * nc + i) (y_draftInitial i)) (by rw [bs_ix 4 nc i, bs_clk (n := 4 * nc + i) (by omega), bs_clk (n := i) (by omega)]) (nm_r (nI_1 i) (k (upd s1 (4 * nc + i) (y_draftHas i), upd s2 (4 * nc + i) (y_draftInitial i)) ⟨fun j hj => ?_, fun n hn => ?_⟩))⟩⟩)
    · dsimp only
      rw [pk_un (by omega), pk_un (by omega)]; exact hI.1 j hj
    · dsimp only
      by_cases e : n = i
      · rw [e, pk_us, pk_us]; exact ⟨rfl, rfl⟩
      · rw [pk_un (by omega), pk_un (by omega)]; exact hI.2 n (by omega)
theorem my_def40 {post : Int32 → SY → Prop} {nc ns : Nat} (hcls : rl_cls nc y_line y_lineLength) (h15 : nc ≤ 15) (hsup : rl_sup nc ns y_drafted) (hz : ∀ n, n < 4 → y_draftHas n = 0 ∨ y_draftHas n = 1)
    (hc : de_sl y_drafted y_sealed ns → ∀ DH' : Nat → Int32, (∀ n, n < 4 → DH' n = 0) → post (-3) (nI nc, 0, y_objects, y_specials, y_depth, y_ops, y_held, y_fault, y_steps, y_shownSteps, y_result, y_line, y_lineLength, y_has, y_sealed, y_initial, y_drafted, DH', y_draftInitial, y_lists, y_listLength, y_gone, y_classOfObject, y_slots, y_parameters, y_generic, y_single, y_special, y_kind, y_tokens, y_with, y_methodAt, y_pc, y_chosen, y_many, y_reached, y_opsAt, y_broken, y_arguments, y_operands, y_operator, y_got))
    (hb : ¬ de_sl y_drafted y_sealed ns → (∃ k, k ≤ ns ∧ mg_G (mg_E y_drafted y_line ns) (mg_l y_drafted y_lineLength ns) ns (mg_N (mg_E y_drafted y_line ns) (mg_l y_drafted y_lineLength ns) ns) k < mg_l y_drafted y_lineLength ns k) → ∀ (ls ll go DH' : Nat → Int32), (∀ n, n < 4 → DH' n = 0) → post (-2) (nI nc, 0, y_objects, y_specials, y_depth, y_ops, y_held, y_fault, y_steps, y_shownSteps, y_result, mg_ln (mg_E y_drafted y_line ns) (mg_l y_drafted y_lineLength ns) ns nc y_line (mg_N (mg_E y_drafted y_line ns) (mg_l y_drafted y_lineLength ns) ns), upd y_lineLength nc (nI (mg_N (mg_E y_drafted y_line ns) (mg_l y_drafted y_lineLength ns) ns + 1)), y_has, y_sealed, y_initial, y_drafted, DH', y_draftInitial, ls, ll, go, y_classOfObject, y_slots, y_parameters, y_generic, y_single, y_special, y_kind, y_tokens, y_with, y_methodAt, y_pc, y_chosen, y_many, y_reached, y_opsAt, y_broken, y_arguments, y_operands, y_operator, y_got))
    (hw : ¬ de_sl y_drafted y_sealed ns → (∀ k, k ≤ ns → ¬ mg_G (mg_E y_drafted y_line ns) (mg_l y_drafted y_lineLength ns) ns (mg_N (mg_E y_drafted y_line ns) (mg_l y_drafted y_lineLength ns) ns) k < mg_l y_drafted y_lineLength ns k) → ∀ (ls ll go DH' HA' IN' : Nat → Int32), (∀ n, n < 4 → DH' n = 0) → de_cp nc y_has y_initial y_draftHas y_draftInitial HA' IN' 4 → post (nI nc) (nI (nc + 1), 0, y_objects, y_specials, y_depth, y_ops, y_held, y_fault, y_steps, y_shownSteps, y_result, mg_ln (mg_E y_drafted y_line ns) (mg_l y_drafted y_lineLength ns) ns nc y_line (mg_N (mg_E y_drafted y_line ns) (mg_l y_drafted y_lineLength ns) ns), upd y_lineLength nc (nI (mg_N (mg_E y_drafted y_line ns) (mg_l y_drafted y_lineLength ns) ns + 1)), HA', y_sealed, IN', y_drafted, DH', y_draftInitial, ls, ll, go, y_classOfObject, y_slots, y_parameters, y_generic, y_single, y_special, y_kind, y_tokens, y_with, y_methodAt, y_pc, y_chosen, y_many, y_reached, y_opsAt, y_broken, y_arguments, y_operands, y_operator, y_got)) : ∃ n, wY_define_40 post (nI nc) (nI ns) y_objects y_specials y_depth y_ops y_held y_fault y_steps y_shownSteps y_result y_line y_lineLength y_has y_sealed y_initial y_drafted y_draftHas y_draftInitial y_lists y_listLength y_gone y_classOfObject y_slots y_parameters y_generic y_single y_special y_kind y_tokens y_with y_methodAt y_pc y_chosen y_many y_reached y_opsAt y_broken y_arguments y_operands y_operator y_got n 0 0 := by
  have h3 := hsup.1
  refine loop_0 (σ := Int32) (fun n i s => wY_define_40 post (nI nc) (nI ns) y_objects y_specials y_depth y_ops y_held y_fault y_steps y_shownSteps y_result y_line y_lineLength y_has y_sealed y_initial y_drafted y_draftHas y_draftInitial y_lists y_listLength y_gone y_classOfObject y_slots y_parameters y_generic y_single y_special y_kind y_tokens y_with y_methodAt y_pc y_chosen y_many y_reached y_opsAt y_broken y_arguments y_operands y_operator y_got n s (nI i)) (fun i s => (s = 0 ∧ ∀ j, j < i → y_sealed (y_drafted j).toNatClampNeg = 0) ∨ (¬ s = 0 ∧ ∃ j, j < i ∧ ¬ y_sealed (y_drafted j).toNatClampNeg = 0)) ns 0 (Or.inl ⟨rfl, lt_0⟩) ?_ ?_
  · intro n s hI
    refine br_t (nI_le (Nat.le_refl _) (by omega)) ?_
    rcases hI with ⟨rfl, h⟩ | ⟨hs, j, hj, h⟩
    · have hns : ¬ de_sl y_drafted y_sealed ns := by
        rintro ⟨i, hi, z⟩
        exact z (h i hi)
      refine br_t rfl (my_merge hcls h15 hsup (fun h2 ls ll go => br_f (by decide) ?_) (fun h2 ls ll go => br_t rfl ?_))
      · exact my_def87 h15 hz (fun HA' IN' hcp => my_def140 (fun z => absurd rfl z) (fun _ z => absurd z (by decide)) (fun _ _ DH' hD => hw hns h2 ls ll go DH' HA' IN' hD hcp))
      · exact ⟨1, br_f (nI_ge (a := 0) (b := 4) (by omega) (by omega)) (br_t rfl (my_def140 (fun z => absurd rfl z) (fun _ _ DH' hD => hb hns h2 ls ll go DH' hD) (fun _ z => absurd rfl z)))⟩
    · refine br_f hs ⟨1, br_f (nI_ge (a := 0) (b := 4) (by omega) (by omega)) (br_t rfl (my_def140 (fun _ DH' hD => hc ⟨j, hj, h⟩ DH' hD) (fun z => absurd z hs) (fun z => absurd z hs)))⟩
  · intro n i s hi hI k
    obtain ⟨c, hc, ec⟩ := hsup.2 i hi
    refine br_f (nI_ge hi (by omega)) ⟨pk_in i 3 (by omega), ?_⟩
    rw [bs_clk (n := i) (by omega)]
    refine ⟨pk_in c 16 (by omega) ec, nm_e (nm_r (nI_1 i) (k _ ?_))⟩
    by_cases hz2 : s ||| y_sealed (y_drafted i).toNatClampNeg = 0
    · have h2 := de_or.mp hz2
      rcases hI with ⟨e, h⟩ | ⟨e, _⟩
      · exact Or.inl ⟨hz2, lt_s h h2.2⟩
      · exact absurd h2.1 e
    · rcases hI with ⟨e, h⟩ | ⟨e, j, hj, h⟩
      · exact Or.inr ⟨hz2, i, by omega, fun z => hz2 (de_or.mpr ⟨e, z⟩)⟩
      · exact Or.inr ⟨hz2, j, by omega, h⟩
end
end
section
theorem de_slt_f {nc : Nat} {CH CS HA IN DH DI DH' : Nat → Int32} (h : rl_slt nc CH CS HA IN DH DI) (hD : ∀ n, n < 4 → DH' n = 0) : rl_slt nc (de_z CH (4 * nc) 4) CS HA IN DH' DI := by
  obtain ⟨h1, h2, h3, h4⟩ := h
  refine ⟨fun j => ?_, fun j hj => ?_, fun n hn => ?_, fun j hj => ?_⟩
  · unfold de_z
    by_cases c : 4 * nc ≤ j ∧ j < 4 * nc + 4
    · rw [if_pos c]; exact Or.inl rfl
    · rw [if_neg c]; exact h1 j
  · have e : de_z CH (4 * nc) 4 j = CH j := if_neg (by omega)
    rw [e]; exact h2 j hj
  · have e : de_z CH (4 * nc) 4 (4 * nc + n) = 0 := if_pos (by omega)
    rw [e]; exact ⟨hD n hn, fun z => absurd z (show ¬ (0 : Int32) = 1 by decide)⟩
  · have e : de_z CH (4 * nc) 4 j = CH j := if_neg (by omega)
    rw [e]; exact h4 j hj
theorem de_slt_w {nc : Nat} {CH CS HA IN DH DI DH' HA' IN' : Nat → Int32} (h : rl_slt nc CH CS HA IN DH DI) (hD : ∀ n, n < 4 → DH' n = 0) (hcp : de_cp nc HA IN DH DI HA' IN' 4) : rl_slt (nc + 1) CH CS HA' IN' DH' DI := by
  obtain ⟨h1, h2, h3, h4⟩ := h
  refine ⟨h1, fun j hj => ?_, fun n hn => ?_, fun j hj => h4 j (by omega)⟩
  · by_cases c : j < 4 * nc
    · rw [(hcp.1 j c).1, (hcp.1 j c).2]; exact h2 j c
    · obtain ⟨n, hn, rfl⟩ : ∃ n, n < 4 ∧ j = 4 * nc + n := ⟨j - 4 * nc, by omega, by omega⟩
      rw [(hcp.2 n hn).1, (hcp.2 n hn).2]; exact h3 n hn
  · rw [h4 (4 * (nc + 1) + n) (by omega)]
    exact ⟨hD n hn, fun z => absurd z (show ¬ (0 : Int32) = 1 by decide)⟩
theorem de_cls_f {nc : Nat} {LC LL : Nat → Int32} (h : rl_cls nc LC LL) {E : Nat → Nat → Nat} {ln : Nat → Nat} {ns q : Nat} {x : Int32} : rl_cls nc (mg_ln E ln ns nc LC q) (upd LL nc x) := by
  refine ⟨h.1, h.2.1, fun c hc => ?_⟩
  obtain ⟨l, hl, el, hk⟩ := h.2.2 c hc
  refine ⟨l, hl, by rw [pk_un (by omega)]; exact el, fun k hkl => ?_⟩
  rw [mg_ln_lo q _ (by omega)]
  exact hk k hkl
theorem de_cls_w {nc : Nat} {LC LL : Nat → Int32} (h : rl_cls nc LC LL) {E : Nat → Nat → Nat} {ln : Nat → Nat} {ns : Nat} (hok : mg_ok E ln ns nc) : rl_cls (nc + 1) (mg_ln E ln ns nc LC (mg_N E ln ns)) (upd LL nc (nI (mg_N E ln ns + 1))) := by
  have h15 := hok.2.1
  have hN := mg_Nle hok
  refine ⟨by have := h.1; omega, by omega, fun c hc => ?_⟩
  by_cases e : c = nc
  · subst e
    refine ⟨mg_N E ln ns + 1, by omega, pk_us, fun k hk => ?_⟩
    cases k with
    | zero => exact ⟨c, by omega, mg_ln_0 _⟩
    | succ k =>
      have hh := mg_Nlt (E := E) (ln := ln) (ns := ns) (q := k) (by omega)
      have hst := mg_step hok (mg_all hok k (by omega)).1 hh
      refine ⟨mg_c E ln ns (mg_G E ln ns k), by have := hst.2.2; omega, ?_⟩
      rw [show 16 * c + (k + 1) = 16 * c + 1 + k by omega]
      exact mg_ln_i _ k (by omega)
  · obtain ⟨l, hl, el, hk⟩ := h.2.2 c (by omega)
    refine ⟨l, hl, by rw [pk_un e]; exact el, fun k hkl => ?_⟩
    rw [mg_ln_lo _ _ (by omega)]
    obtain ⟨e2, he2, ee2⟩ := hk k hkl
    exact ⟨e2, by omega, ee2⟩
theorem de_tk {nc : Nat} {k v : Int32} (h : rl_tk nc k v) : rl_tk (nc + 1) k v := by
  obtain ⟨q, h1, h2, h3, h4, h5, h6⟩ := h
  refine ⟨q, h1, h2, h3, h4, h5, fun z => ?_⟩
  obtain ⟨a, ha, e⟩ := h6 z
  exact ⟨a, by omega, e⟩
theorem de_tok {nc : Nat} {TK TV TC : Nat → Int32} (h : rl_tok nc TK TV TC) : rl_tok (nc + 1) TK TV TC := by
  intro m hm
  obtain ⟨t, ht, et, hi⟩ := h m hm
  exact ⟨t, ht, et, fun i hit => de_tk (hi i hit)⟩
theorem de_obj {nc no : Nat} {OC OH : Nat → Int32} {OS SL : Nat → Int64} (h : rl_obj nc no OC OH OS SL) : rl_obj (nc + 1) no OC OH OS SL := by
  refine ⟨h.1, fun k hk => ?_, h.2.2⟩
  obtain ⟨c, hc, e⟩ := h.2.1 k hk
  exact ⟨c, by omega, e⟩
theorem de_sp {nc no : Nat} {sp sg : Int64} {si : Int32} (h : rl_sp nc no sp si sg) : rl_sp (nc + 1) no sp si sg := by
  rcases h with ⟨e, c, hc, h1⟩ | h
  · exact Or.inl ⟨e, c, by omega, h1⟩
  · exact Or.inr h
theorem de_spc {nc no nd : Nat} {MG PC : Nat → Int32} {SP : Nat → Int64} {SI : Nat → Int32} {SG : Nat → Int64} (h : rl_spc nc no nd MG PC SP SI SG) : rl_spc (nc + 1) no nd MG PC SP SI SG :=
  ⟨h.1, fun k hk => de_sp (h.2.1 k hk), fun m g p hm hg hp h1 h2 k hk => de_sp (h.2.2 m g p hm hg hp h1 h2 k hk)⟩
section
variable {x_classCount : Int32} {x_superCount : Int32} {x_objectCount : Int32} {x_draftSpecialCount : Int32} {x_state : Int32} {x_stepCount : Int32} {x_latestValue : Int64} {x_enterGeneric : Int32} {x_enterPlace : Int32} {x_frameCount : Int32} {x_operatorCount : Int32} {x_valueCount : Int32} {x_lineClass : Nat → Int32} {x_lineLength : Nat → Int32} {x_isSealed : Nat → Int32} {x_classHasSlot : Nat → Int32} {x_classSlot : Nat → Int32} {x_superDraft : Nat → Int32} {x_objectClass : Nat → Int32} {x_objectHasSlot : Nat → Int32} {x_objectSlot : Nat → Int64} {x_parameterCount : Nat → Int32} {x_methodGeneric : Nat → Int32} {x_specialiser : Nat → Int64} {x_tokenKind : Nat → Int32} {x_tokenValue : Nat → Int32} {x_tokenCount : Nat → Int32} {x_argument : Nat → Int64} {x_rank : Nat → Int32} {x_orderPlace : Nat → Int32} {x_frameMethod : Nat → Int32} {x_framePlace : Nat → Int32} {x_frameToken : Nat → Int32} {x_frameOperators : Nat → Int32} {x_frameArgument : Nat → Int64} {x_operatorKind : Nat → Int32} {x_operatorValue : Nat → Int32} {x_operatorLeft : Nat → Int32} {x_workedOut : Nat → Int64} {y_classes : Int32} {y_supers : Int32} {y_objects : Int32} {y_specials : Int32} {y_depth : Int32} {y_ops : Int32} {y_held : Int32} {y_fault : Int32} {y_steps : Int32} {y_shownSteps : Int32} {y_result : Int64} {y_line : Nat → Int32} {y_lineLength : Nat → Int32} {y_has : Nat → Int32} {y_sealed : Nat → Int32} {y_initial : Nat → Int32} {y_drafted : Nat → Int32} {y_draftHas : Nat → Int32} {y_draftInitial : Nat → Int32} {y_lists : Nat → Int32} {y_listLength : Nat → Int32} {y_gone : Nat → Int32} {y_classOfObject : Nat → Int32} {y_slots : Nat → Int64} {y_parameters : Nat → Int32} {y_generic : Nat → Int32} {y_single : Nat → Int32} {y_special : Nat → Int64} {y_kind : Nat → Int32} {y_tokens : Nat → Int32} {y_with : Nat → Int32} {y_methodAt : Nat → Int32} {y_pc : Nat → Int32} {y_chosen : Nat → Int32} {y_many : Nat → Int32} {y_reached : Nat → Int32} {y_opsAt : Nat → Int32} {y_broken : Nat → Int32} {y_arguments : Nat → Int64} {y_operands : Nat → Int64} {y_operator : Nat → Int32} {y_got : Nat → Int32}
theorem de_core {k nc no ns nd : Nat} {v0 : SY} (h15 : nc ≤ 15) (hcls : rl_cls nc x_lineClass x_lineLength) (hsup : rl_sup nc ns x_superDraft) (hslt : rl_slt nc x_classHasSlot x_classSlot y_has y_initial y_draftHas y_draftInitial) (hobj : rl_obj nc no x_objectClass x_objectHasSlot x_objectSlot y_slots) (hpar : rl_par x_parameterCount) (hgen : rl_gen x_methodGeneric) (htok : rl_tok nc x_tokenKind x_tokenValue x_tokenCount) (hbod : rl_bod x_parameterCount x_methodGeneric x_tokenKind x_tokenValue x_tokenCount) (hspc : rl_spc nc no nd x_methodGeneric x_parameterCount x_specialiser y_single y_special) (hunq : rl_unq x_methodGeneric x_parameterCount x_specialiser)
    (hYd : ∀ post' : Int32 → SY → Prop, (∃ n, wY_define_40 post' (nI nc) (nI ns) (nI no) (nI nd) y_depth y_ops y_held y_fault y_steps x_stepCount x_latestValue x_lineClass x_lineLength y_has x_isSealed y_initial x_superDraft y_draftHas y_draftInitial y_lists y_listLength y_gone x_objectClass y_slots x_parameterCount x_methodGeneric y_single y_special x_tokenKind x_tokenCount x_tokenValue y_methodAt y_pc y_chosen y_many y_reached y_opsAt y_broken y_arguments y_operands y_operator y_got n 0 0) → wpY_define post' v0) : wX_define_31 (fun r u' => wpY_define (fun r' v' => r' = r ∧ i_Rel (k + 9) u' v') v0) (nI nc) (nI ns) (nI no) (nI nd) x_state x_stepCount x_latestValue x_enterGeneric x_enterPlace x_frameCount x_operatorCount x_valueCount x_lineClass x_lineLength x_isSealed x_classHasSlot x_classSlot x_superDraft x_objectClass x_objectHasSlot x_objectSlot x_parameterCount x_methodGeneric x_specialiser x_tokenKind x_tokenValue x_tokenCount x_argument x_rank x_orderPlace x_frameMethod x_framePlace x_frameToken x_frameOperators x_frameArgument x_operatorKind x_operatorValue x_operatorLeft x_workedOut := by
  have hz : ∀ n, n < 4 → y_draftHas n = 0 ∨ y_draftHas n = 1 := fun n hn => by
    rw [(hslt.2.2.1 n hn).1]; exact hslt.1 _
  have hok := mg_okL hcls h15 hsup
  refine mx_def31 hcls h15 hsup (fun hc => hYd _ ?_) (fun hc hb => hYd _ ?_) (fun hc hw => hYd _ ?_)
  · refine my_def40 hcls h15 hsup hz (fun _ DH' hD => ⟨rfl, ?_⟩) (fun z => absurd hc z) (fun z => absurd hc z)
    exact ⟨nc, no, 0, nd, rfl, rfl, rfl, rfl, rfl, rfl, rfl, rfl, rfl, rfl, rfl, rfl, rfl, rfl, rfl, rfl, rfl, rfl, rfl, rfl, hcls, ⟨by omega, fun i hi => by omega⟩, de_slt_f hslt hD, hobj, hpar, hgen, htok, hbod, hspc, hunq⟩
  · refine my_def40 hcls h15 hsup hz (fun z => absurd z hc) (fun _ _ ls ll go DH' hD => ⟨rfl, ?_⟩) (fun _ hw => by obtain ⟨k, hk, z⟩ := hb; exact absurd z (hw k hk))
    exact ⟨nc, no, 0, nd, rfl, rfl, rfl, rfl, rfl, rfl, rfl, rfl, rfl, rfl, rfl, rfl, rfl, rfl, rfl, rfl, rfl, rfl, rfl, rfl, de_cls_f hcls, ⟨by omega, fun i hi => by omega⟩, de_slt_f hslt hD, hobj, hpar, hgen, htok, hbod, hspc, hunq⟩
  · refine my_def40 hcls h15 hsup hz (fun z => absurd z hc) (fun _ hb => by obtain ⟨k, hk, z⟩ := hb; exact absurd z (hw k hk)) (fun _ _ ls ll go DH' HA' IN' hD hcp => ⟨rfl, ?_⟩)
    exact ⟨nc + 1, no, 0, nd, rfl, rfl, rfl, rfl, rfl, rfl, rfl, rfl, rfl, rfl, rfl, rfl, rfl, rfl, rfl, rfl, rfl, rfl, rfl, rfl, de_cls_w hcls hok, ⟨by omega, fun i hi => by omega⟩, de_slt_w hslt hD hcp, de_obj hobj, hpar, hgen, de_tok htok, hbod, de_spc hspc, hunq⟩
end
theorem i_vc_define {k : Nat} {u : SX} {v : SY} (I : i_Rel k u v) (hk : k + 9 ≤ 4608) : wpX_define (fun r u' => wpY_define (fun r' v' => r' = r ∧ i_Rel (k + 9) u' v') v) u := by
  obtain ⟨x_classCount, x_superCount, x_objectCount, x_draftSpecialCount, x_state, x_stepCount, x_latestValue, x_enterGeneric, x_enterPlace, x_frameCount, x_operatorCount, x_valueCount, x_lineClass, x_lineLength, x_isSealed, x_classHasSlot, x_classSlot, x_superDraft, x_objectClass, x_objectHasSlot, x_objectSlot, x_parameterCount, x_methodGeneric, x_specialiser, x_tokenKind, x_tokenValue, x_tokenCount, x_argument, x_rank, x_orderPlace, x_frameMethod, x_framePlace, x_frameToken, x_frameOperators, x_frameArgument, x_operatorKind, x_operatorValue, x_operatorLeft, x_workedOut⟩ := u
  obtain ⟨y_classes, y_supers, y_objects, y_specials, y_depth, y_ops, y_held, y_fault, y_steps, y_shownSteps, y_result, y_line, y_lineLength, y_has, y_sealed, y_initial, y_drafted, y_draftHas, y_draftInitial, y_lists, y_listLength, y_gone, y_classOfObject, y_slots, y_parameters, y_generic, y_single, y_special, y_kind, y_tokens, y_with, y_methodAt, y_pc, y_chosen, y_many, y_reached, y_opsAt, y_broken, y_arguments, y_operands, y_operator, y_got⟩ := v
  obtain ⟨nc, no, ns, nd, rfl, rfl, rfl, rfl, rfl, rfl, rfl, rfl, rfl, rfl, rfl, rfl, rfl, rfl, rfl, rfl, rfl, rfl, rfl, rfl, hcls, hsup, hslt, hobj, hpar, hgen, htok, hbod, hspc, hunq⟩ := I
  have J : i_Rel (k + 9) (nI nc, nI ns, nI no, nI nd, x_state, x_stepCount, x_latestValue, x_enterGeneric, x_enterPlace, x_frameCount, x_operatorCount, x_valueCount, x_lineClass, x_lineLength, x_isSealed, x_classHasSlot, x_classSlot, x_superDraft, x_objectClass, x_objectHasSlot, x_objectSlot, x_parameterCount, x_methodGeneric, x_specialiser, x_tokenKind, x_tokenValue, x_tokenCount, x_argument, x_rank, x_orderPlace, x_frameMethod, x_framePlace, x_frameToken, x_frameOperators, x_frameArgument, x_operatorKind, x_operatorValue, x_operatorLeft, x_workedOut) (nI nc, nI ns, nI no, nI nd, y_depth, y_ops, y_held, y_fault, y_steps, x_stepCount, x_latestValue, x_lineClass, x_lineLength, y_has, x_isSealed, y_initial, x_superDraft, y_draftHas, y_draftInitial, y_lists, y_listLength, y_gone, x_objectClass, y_slots, x_parameterCount, x_methodGeneric, y_single, y_special, x_tokenKind, x_tokenCount, x_tokenValue, y_methodAt, y_pc, y_chosen, y_many, y_reached, y_opsAt, y_broken, y_arguments, y_operands, y_operator, y_got) := ⟨nc, no, ns, nd, rfl, rfl, rfl, rfl, rfl, rfl, rfl, rfl, rfl, rfl, rfl, rfl, rfl, rfl, rfl, rfl, rfl, rfl, rfl, rfl, hcls, hsup, hslt, hobj, hpar, hgen, htok, hbod, hspc, hunq⟩
  have hn : nc ≤ 16 := hcls.2.1
  have h3 := hsup.1
  unfold wpX_define
  refine pk_eq nc 16 (fun e => ?_) (fun e => pk_eq ns 0 (fun e0 => ?_) (fun e0 => ?_))
  · unfold wpY_define
    exact br_t (congrArg nI e) ⟨rfl, J⟩
  · refine nm_e ?_
    subst e0
    refine de_core (y_depth := y_depth) (y_ops := y_ops) (y_held := y_held) (y_fault := y_fault) (y_steps := y_steps) (y_has := y_has) (y_initial := y_initial) (y_draftHas := y_draftHas) (y_draftInitial := y_draftInitial) (y_lists := y_lists) (y_listLength := y_listLength) (y_gone := y_gone) (y_slots := y_slots) (y_single := y_single) (y_special := y_special) (y_methodAt := y_methodAt) (y_pc := y_pc) (y_chosen := y_chosen) (y_many := y_many) (y_reached := y_reached) (y_opsAt := y_opsAt) (y_broken := y_broken) (y_arguments := y_arguments) (y_operands := y_operands) (y_operator := y_operator) (y_got := y_got) (ns := 1) (by omega) hcls ⟨by omega, fun i hi => ?_⟩ hslt hobj hpar hgen htok hbod hspc hunq (fun post' hY => ?_)
    · have ei : i = 0 := by omega
      subst ei
      exact ⟨0, by have := hcls.1; omega, pk_us⟩
    · unfold wpY_define
      exact pk_eq nc 16 (fun z => absurd z e) (fun _ => br_t rfl (nm_r (nI_1 0) ⟨pk_in 0 3 (by omega), nm_r (e' := upd x_superDraft 0 0) (by rw [bs_v0]; rfl) hY⟩))
  · refine de_core (y_depth := y_depth) (y_ops := y_ops) (y_held := y_held) (y_fault := y_fault) (y_steps := y_steps) (y_has := y_has) (y_initial := y_initial) (y_draftHas := y_draftHas) (y_draftInitial := y_draftInitial) (y_lists := y_lists) (y_listLength := y_listLength) (y_gone := y_gone) (y_slots := y_slots) (y_single := y_single) (y_special := y_special) (y_methodAt := y_methodAt) (y_pc := y_pc) (y_chosen := y_chosen) (y_many := y_many) (y_reached := y_reached) (y_opsAt := y_opsAt) (y_broken := y_broken) (y_arguments := y_arguments) (y_operands := y_operands) (y_operator := y_operator) (y_got := y_got) (by omega) hcls hsup hslt hobj hpar hgen htok hbod hspc hunq (fun post' hY => ?_)
    unfold wpY_define
    exact pk_eq nc 16 (fun z => absurd z e) (fun _ => pk_eq ns 0 (fun z => absurd z e0) (fun _ => hY))
end
section
/-! the machine of call: frames and items as lists, their layout in the arrays of X and of Y
   an item: cell of its token, how many operands it has got, how many of them are kept, these
   a frame: method, place in the order, place of the next token, arguments, items (the last first) -/
abbrev cm_It : Type := Nat × Nat × Nat × (Nat → Int64)
abbrev cm_Fr : Type := Nat × Nat × Nat × (Nat → Int64) × List cm_It
def cm_ni (vis : cm_It → Bool) : List cm_It → Nat
  | [] => 0
  | i :: r => cm_ni vis r + (if vis i = true then 1 else 0)
def cm_nv (vis : cm_It → Bool) : List cm_It → Nat
  | [] => 0
  | i :: r => cm_nv vis r + (if vis i = true then i.2.2.1 else 0)
def cm_ko (vis : cm_It → Bool) : List cm_Fr → Nat
  | [] => 0
  | f :: K => cm_ko vis K + cm_ni vis f.2.2.2.2
def cm_kv (vis : cm_It → Bool) : List cm_Fr → Nat
  | [] => 0
  | f :: K => cm_kv vis K + cm_nv vis f.2.2.2.2
def cm_li (vis : cm_It → Bool) (o1 o2 o3 : Nat → Int32) (e1 e2 e3 : cm_It → Int32) (wo : Nat → Int64) (bo bv : Nat) : List cm_It → Prop
  | [] => True
  | i :: r => (vis i = true → o1 (bo + cm_ni vis r) = e1 i ∧ o2 (bo + cm_ni vis r) = e2 i ∧ o3 (bo + cm_ni vis r) = e3 i ∧ ∀ q, q < i.2.2.1 → wo (bv + cm_nv vis r + q) = i.2.2.2 q) ∧ cm_li vis o1 o2 o3 e1 e2 e3 wo bo bv r
def cm_lk (vis : cm_It → Bool) (o1 o2 o3 : Nat → Int32) (e1 e2 e3 : cm_It → Int32) (wo : Nat → Int64) (fM fP fT fO : Nat → Int32) (fA : Nat → Int64) (np : Nat → Nat) : List cm_Fr → Prop
  | [] => True
  | f :: K => (fM K.length = nI f.1 ∧ fP K.length = nI f.2.1 ∧ fT K.length = nI f.2.2.1 ∧ fO K.length = nI (cm_ko vis K) ∧ (∀ q, q < np f.1 → fA (3 * K.length + q) = f.2.2.2.1 q) ∧ cm_li vis o1 o2 o3 e1 e2 e3 wo (cm_ko vis K) (cm_kv vis K) f.2.2.2.2) ∧ cm_lk vis o1 o2 o3 e1 e2 e3 wo fM fP fT fO fA np K
theorem cm_ni_t {vis : cm_It → Bool} {i : cm_It} {r : List cm_It} (h : vis i = true) : cm_ni vis (i :: r) = cm_ni vis r + 1 := by
  show cm_ni vis r + (if vis i = true then 1 else 0) = _
  rw [if_pos h]
theorem cm_ni_f {vis : cm_It → Bool} {i : cm_It} {r : List cm_It} (h : ¬ vis i = true) : cm_ni vis (i :: r) = cm_ni vis r := by
  show cm_ni vis r + (if vis i = true then 1 else 0) = _
  rw [if_neg h]; rfl
theorem cm_nv_t {vis : cm_It → Bool} {i : cm_It} {r : List cm_It} (h : vis i = true) : cm_nv vis (i :: r) = cm_nv vis r + i.2.2.1 := by
  show cm_nv vis r + (if vis i = true then i.2.2.1 else 0) = _
  rw [if_pos h]
theorem cm_nv_f {vis : cm_It → Bool} {i : cm_It} {r : List cm_It} (h : ¬ vis i = true) : cm_nv vis (i :: r) = cm_nv vis r := by
  show cm_nv vis r + (if vis i = true then i.2.2.1 else 0) = _
  rw [if_neg h]; rfl
def cm_al (_ : cm_It) : Bool := true
theorem cm_ni_le (vis : cm_It → Bool) : ∀ its, cm_ni vis its ≤ cm_ni cm_al its := by
  intro its
  induction its with
  | nil => exact Nat.le_refl _
  | cons i r ih =>
    rw [cm_ni_t (vis := cm_al) rfl]
    by_cases h : vis i = true
    · rw [cm_ni_t h]; omega
    · rw [cm_ni_f h]; omega
theorem cm_nv_le (vis : cm_It → Bool) : ∀ its, cm_nv vis its ≤ cm_nv cm_al its := by
  intro its
  induction its with
  | nil => exact Nat.le_refl _
  | cons i r ih =>
    rw [cm_nv_t (vis := cm_al) rfl]
    by_cases h : vis i = true
    · rw [cm_nv_t h]; omega
    · rw [cm_nv_f h]; omega
theorem cm_ko_c (vis : cm_It → Bool) (f : cm_Fr) (K : List cm_Fr) : cm_ko vis (f :: K) = cm_ko vis K + cm_ni vis f.2.2.2.2 := rfl
theorem cm_kv_c (vis : cm_It → Bool) (f : cm_Fr) (K : List cm_Fr) : cm_kv vis (f :: K) = cm_kv vis K + cm_nv vis f.2.2.2.2 := rfl
theorem cm_ko_le (vis : cm_It → Bool) : ∀ K, cm_ko vis K ≤ cm_ko cm_al K := by
  intro K
  induction K with
  | nil => exact Nat.le_refl _
  | cons f K ih =>
    rw [cm_ko_c, cm_ko_c]
    have := cm_ni_le vis f.2.2.2.2
    omega
theorem cm_kv_le (vis : cm_It → Bool) : ∀ K, cm_kv vis K ≤ cm_kv cm_al K := by
  intro K
  induction K with
  | nil => exact Nat.le_refl _
  | cons f K ih =>
    rw [cm_kv_c, cm_kv_c]
    have := cm_nv_le vis f.2.2.2.2
    omega
theorem cm_li_c {vis : cm_It → Bool} {o1 o2 o3 p1 p2 p3 : Nat → Int32} {e1 e2 e3 : cm_It → Int32} {wo wp : Nat → Int64} {bo bv : Nat} : ∀ its, (∀ j, j < bo + cm_ni vis its → p1 j = o1 j ∧ p2 j = o2 j ∧ p3 j = o3 j) → (∀ j, j < bv + cm_nv vis its → wp j = wo j) → cm_li vis o1 o2 o3 e1 e2 e3 wo bo bv its → cm_li vis p1 p2 p3 e1 e2 e3 wp bo bv its := by
  intro its
  induction its with
  | nil => exact fun _ _ _ => trivial
  | cons i r ih =>
    rintro h1 h2 ⟨h3, h4⟩
    by_cases hv : vis i = true
    · rw [cm_ni_t hv] at h1
      rw [cm_nv_t hv] at h2
      refine ⟨fun _ => ?_, ih (fun j hj => h1 j (by omega)) (fun j hj => h2 j (by omega)) h4⟩
      obtain ⟨a, b, c, d⟩ := h3 hv
      have hj := h1 (bo + cm_ni vis r) (by omega)
      exact ⟨hj.1.trans a, hj.2.1.trans b, hj.2.2.trans c, fun q hq => (h2 _ (by omega)).trans (d q hq)⟩
    · rw [cm_ni_f hv] at h1
      rw [cm_nv_f hv] at h2
      exact ⟨fun z => absurd z hv, ih h1 h2 h4⟩
theorem cm_lk_c {vis : cm_It → Bool} {o1 o2 o3 p1 p2 p3 : Nat → Int32} {e1 e2 e3 : cm_It → Int32} {wo wp : Nat → Int64} {fM fP fT fO gM gP gT gO : Nat → Int32} {fA gA : Nat → Int64} {np : Nat → Nat} (hnp : ∀ m, np m ≤ 3) : ∀ K : List cm_Fr, (∀ j, j < K.length → gM j = fM j ∧ gP j = fP j ∧ gT j = fT j ∧ gO j = fO j) → (∀ j, j < 3 * K.length → gA j = fA j) → (∀ j, j < cm_ko vis K → p1 j = o1 j ∧ p2 j = o2 j ∧ p3 j = o3 j) → (∀ j, j < cm_kv vis K → wp j = wo j) → cm_lk vis o1 o2 o3 e1 e2 e3 wo fM fP fT fO fA np K → cm_lk vis p1 p2 p3 e1 e2 e3 wp gM gP gT gO gA np K := by
  intro K
  induction K with
  | nil => exact fun _ _ _ _ _ => trivial
  | cons f K ih =>
    rintro h1 h2 h3 h4 ⟨⟨a, b, c, d, e, g⟩, h5⟩
    rw [cm_ko_c] at h3
    rw [cm_kv_c] at h4
    have hl : (f :: K).length = K.length + 1 := rfl
    rw [hl] at h1 h2
    have hj := h1 K.length (by omega)
    have hn := hnp f.1
    refine ⟨⟨hj.1.trans a, hj.2.1.trans b, hj.2.2.1.trans c, hj.2.2.2.trans d, fun q hq => (h2 _ (by omega)).trans (e q hq), cm_li_c _ h3 h4 g⟩, ih (fun j hj => h1 j (by omega)) (fun j hj => h2 j (by omega)) (fun j hj => h3 j (by omega)) (fun j hj => h4 j (by omega)) h5⟩
/-- X sees no SEQ that has its first value -/
def cm_vx (TK : Nat → Int32) (i : cm_It) : Bool := decide (¬ (TK i.1 = 10 ∧ i.2.1 = 1))
theorem cm_vx_t {TK : Nat → Int32} {i : cm_It} (h : ¬ (TK i.1 = 10 ∧ i.2.1 = 1)) : cm_vx TK i = true := decide_eq_true h
theorem cm_vx_f {TK : Nat → Int32} {i : cm_It} (h : TK i.1 = 10 ∧ i.2.1 = 1) : ¬ cm_vx TK i = true := by
  unfold cm_vx
  intro z
  exact of_decide_eq_true z h
def cm_A (PC TK TV : Nat → Int32) (c : Nat) : Nat := rl_ar PC (TK c) (TV c)
def cm_np (PC MG : Nat → Int32) (m : Nat) : Nat := if (PC (MG m).toNatClampNeg).toNatClampNeg ≤ 3 then (PC (MG m).toNatClampNeg).toNatClampNeg else 0
theorem cm_np3 (PC MG : Nat → Int32) (m : Nat) : cm_np PC MG m ≤ 3 := by
  unfold cm_np
  by_cases h : (PC (MG m).toNatClampNeg).toNatClampNeg ≤ 3
  · rw [if_pos h]; exact h
  · rw [if_neg h]; omega
theorem cm_np_e {PC MG : Nat → Int32} {m g p : Nat} (hg : g < 5) (hp : p ≤ 3) (eg : MG m = nI g) (ep : PC g = nI p) : cm_np PC MG m = p := by
  unfold cm_np
  rw [eg, bs_clk (by omega), ep, bs_clk (by omega), if_pos hp]
/-- how many expressions the items of a frame still want, beyond the one at work -/
def cm_nd (A : Nat → Nat) : List cm_It → Nat
  | [] => 0
  | i :: r => cm_nd A r + (A i.1 - i.2.1 - 1)
def cm_lf (A : Nat → Nat) : List cm_It → Nat
  | [] => 0
  | i :: r => cm_lf A r + (A i.1 - i.2.1)
def cm_kl (A : Nat → Nat) : List cm_Fr → Nat
  | [] => 0
  | f :: K => cm_kl A K + cm_lf A f.2.2.2.2
/-- an item of method m, whose body has t tokens -/
def cm_io (A : Nat → Nat) (TK : Nat → Int32) (no m t : Nat) (i : cm_It) : Prop := ∃ j, j < t ∧ i.1 = 16 * m + j ∧ i.2.1 < A i.1 ∧ (TK i.1 = 9 → i.2.2.1 = 0 ∧ i.2.1 ≤ 1) ∧ (¬ TK i.1 = 9 → i.2.2.1 = i.2.1) ∧ ∀ q, q < i.2.2.1 → rl_val no (i.2.2.2 q)
def cm_fo (x no : Nat) (LC LL MG PC : Nat → Int32) (SP : Nat → Int64) (TK TV TC OC : Nat → Int32) (f : cm_Fr) : Prop := ∃ g p t, f.1 < 24 ∧ g < 5 ∧ 1 ≤ p ∧ p ≤ 3 ∧ t ≤ 16 ∧ MG f.1 = nI g ∧ PC g = nI p ∧ TC f.1 = nI t ∧ f.2.2.1 ≤ t ∧ rl_pn (rl_am PC TK TV f.1) (t - f.2.2.1) f.2.2.1 (cm_nd (cm_A PC TK TV) f.2.2.2.2 + x) ∧ (∀ i, i ∈ f.2.2.2.2 → cm_io (cm_A PC TK TV) TK no f.1 t i) ∧ (∀ q, q < p → rl_val no (f.2.2.2.1 q)) ∧ f.2.1 < or_mn (or_R LC LL OC SP f.2.2.2.1 p) p (or_L MG (or_R LC LL OC SP f.2.2.2.1 p) g p)
/-- what Y keeps of the order of each frame -/
def cm_ly (LC LL MG PC : Nat → Int32) (SP : Nat → Int64) (OC mn bk ch : Nat → Int32) : List cm_Fr → Prop
  | [] => True
  | f :: K => (∀ g p, g < 5 → p ≤ 3 → MG f.1 = nI g → PC g = nI p → mn K.length = nI (or_mn (or_R LC LL OC SP f.2.2.2.1 p) p (or_L MG (or_R LC LL OC SP f.2.2.2.1 p) g p)) ∧ bk K.length = bs_ci (or_sq (or_R LC LL OC SP f.2.2.2.1 p) p (or_L MG (or_R LC LL OC SP f.2.2.2.1 p) g p) (or_mn (or_R LC LL OC SP f.2.2.2.1 p) p (or_L MG (or_R LC LL OC SP f.2.2.2.1 p) g p)) = 0) 0 1 ∧ ∀ j, j < or_mn (or_R LC LL OC SP f.2.2.2.1 p) p (or_L MG (or_R LC LL OC SP f.2.2.2.1 p) g p) → ch (24 * K.length + j) = nI (or_ld (or_R LC LL OC SP f.2.2.2.1 p) p (or_sq (or_R LC LL OC SP f.2.2.2.1 p) p (or_L MG (or_R LC LL OC SP f.2.2.2.1 p) g p) j))) ∧ cm_ly LC LL MG PC SP OC mn bk ch K
theorem cm_ly_c {LC LL MG PC : Nat → Int32} {SP : Nat → Int64} {OC mn bk ch mn' bk' ch' : Nat → Int32} : ∀ K : List cm_Fr, (∀ j, j < K.length → mn' j = mn j ∧ bk' j = bk j) → (∀ j, j < 24 * K.length → ch' j = ch j) → cm_ly LC LL MG PC SP OC mn bk ch K → cm_ly LC LL MG PC SP OC mn' bk' ch' K := by
  intro K
  induction K with
  | nil => exact fun _ _ _ => trivial
  | cons f K ih =>
    rintro h1 h2 ⟨h3, h4⟩
    have hl : (f :: K).length = K.length + 1 := rfl
    rw [hl] at h1 h2
    refine ⟨fun g p hg hp eg ep => ?_, ih (fun j hj => h1 j (by omega)) (fun j hj => h2 j (by omega)) h4⟩
    obtain ⟨a, b, c⟩ := h3 g p hg hp eg ep
    have hj := h1 K.length (by omega)
    have hm := or_mn_le (or_R LC LL OC SP f.2.2.2.1 p) p (or_L MG (or_R LC LL OC SP f.2.2.2.1 p) g p)
    exact ⟨hj.1.trans a, hj.2.trans b, fun j hjm => (h2 _ (by omega)).trans (c j hjm)⟩
/-- objects may grow: the ranks of arguments that there were stay -/
theorem cm_R_c {LC LL OC OC' : Nat → Int32} {SP ar : Nat → Int64} {p no : Nat} (hno : no ≤ 20) (ha : ∀ q, q < p → rl_val no (ar q)) (hoc : ∀ k, k < no → OC' k = OC k) : or_R LC LL OC' SP ar p = or_R LC LL OC SP ar p := by
  funext m k
  unfold or_R
  by_cases hk : k < p
  · rw [bs_ct hk, bs_ct hk]
    have e : or_cv OC' (ar k) = or_cv OC (ar k) := by
      unfold or_cv
      rcases ha k hk with hi | ⟨q, hq, e⟩
      · rw [bs_ct hi, bs_ct hi]
      · rw [e, bs_cf (ob_ni (by omega)), bs_cf (ob_ni (by omega)), ob_ix (by omega), bs_clk (by omega), hoc q hq]
    unfold or_nr
    rw [e]
  · rw [bs_cf hk, bs_cf hk]
theorem cm_io_m {A : Nat → Nat} {TK : Nat → Int32} {no no' m t : Nat} (h : no ≤ no') {i : cm_It} (hi : cm_io A TK no m t i) : cm_io A TK no' m t i := by
  obtain ⟨j, h1, h2, h3, h4, h5, h6⟩ := hi
  exact ⟨j, h1, h2, h3, h4, h5, fun q hq => ob_mono h (h6 q hq)⟩
theorem cm_fo_m {x no no' : Nat} {LC LL MG PC : Nat → Int32} {SP : Nat → Int64} {TK TV TC OC OC' : Nat → Int32} {f : cm_Fr} (hn : no ≤ no') (hno : no ≤ 20) (hoc : ∀ k, k < no → OC' k = OC k) (h : cm_fo x no LC LL MG PC SP TK TV TC OC f) : cm_fo x no' LC LL MG PC SP TK TV TC OC' f := by
  obtain ⟨g, p, t, h1, h2, h3, h4, h5, h6, h7, h8, h9, h10, h11, h12, h13⟩ := h
  refine ⟨g, p, t, h1, h2, h3, h4, h5, h6, h7, h8, h9, h10, fun i hi => cm_io_m hn (h11 i hi), fun q hq => ob_mono hn (h12 q hq), ?_⟩
  rw [cm_R_c hno h12 hoc]
  exact h13
theorem cm_ly_m {no : Nat} {LC LL MG PC : Nat → Int32} {SP : Nat → Int64} {TK TV TC OC OC' mn bk ch : Nat → Int32} (hno : no ≤ 20) (hoc : ∀ k, k < no → OC' k = OC k) : ∀ K : List cm_Fr, (∀ f, f ∈ K → ∃ x, cm_fo x no LC LL MG PC SP TK TV TC OC f) → cm_ly LC LL MG PC SP OC mn bk ch K → cm_ly LC LL MG PC SP OC' mn bk ch K := by
  intro K
  induction K with
  | nil => exact fun _ _ => trivial
  | cons f K ih =>
    rintro hf ⟨h3, h4⟩
    refine ⟨fun g p hg hp eg ep => ?_, ih (fun f' hf' => hf f' (List.mem_cons_of_mem _ hf')) h4⟩
    obtain ⟨_, g', p', t, h1, h2, _, hp', h5, h6, h7, _, _, _, _, h12, _⟩ := hf f List.mem_cons_self
    rw [h6] at eg
    have e1 := bs_inj (by omega) (by omega) eg
    subst e1
    rw [h7] at ep
    have e2 := bs_inj (by omega) (by omega) ep
    subst e2
    rw [cm_R_c hno h12 hoc]
    exact h3 g' p' hg hp h6 h7
end
section
/-! X's walks of a call at work -/
section
variable {x_classCount : Int32} {x_superCount : Int32} {x_objectCount : Int32} {x_draftSpecialCount : Int32} {x_state : Int32} {x_stepCount : Int32} {x_latestValue : Int64} {x_enterGeneric : Int32} {x_enterPlace : Int32} {x_frameCount : Int32} {x_operatorCount : Int32} {x_valueCount : Int32} {x_lineClass : Nat → Int32} {x_lineLength : Nat → Int32} {x_isSealed : Nat → Int32} {x_classHasSlot : Nat → Int32} {x_classSlot : Nat → Int32} {x_superDraft : Nat → Int32} {x_objectClass : Nat → Int32} {x_objectHasSlot : Nat → Int32} {x_objectSlot : Nat → Int64} {x_parameterCount : Nat → Int32} {x_methodGeneric : Nat → Int32} {x_specialiser : Nat → Int64} {x_tokenKind : Nat → Int32} {x_tokenValue : Nat → Int32} {x_tokenCount : Nat → Int32} {x_argument : Nat → Int64} {x_rank : Nat → Int32} {x_orderPlace : Nat → Int32} {x_frameMethod : Nat → Int32} {x_framePlace : Nat → Int32} {x_frameToken : Nat → Int32} {x_frameOperators : Nat → Int32} {x_frameArgument : Nat → Int64} {x_operatorKind : Nat → Int32} {x_operatorValue : Nat → Int32} {x_operatorLeft : Nat → Int32} {x_workedOut : Nat → Int64}
theorem mx_pushValue {post : SX → Prop} {vc : Nat} {v : Int64} (hvc : vc < 120) (hp : post (x_classCount, x_superCount, x_objectCount, x_draftSpecialCount, -3, x_stepCount, x_latestValue, x_enterGeneric, x_enterPlace, x_frameCount, x_operatorCount, nI (vc + 1), x_lineClass, x_lineLength, x_isSealed, x_classHasSlot, x_classSlot, x_superDraft, x_objectClass, x_objectHasSlot, x_objectSlot, x_parameterCount, x_methodGeneric, x_specialiser, x_tokenKind, x_tokenValue, x_tokenCount, x_argument, x_rank, x_orderPlace, x_frameMethod, x_framePlace, x_frameToken, x_frameOperators, x_frameArgument, x_operatorKind, x_operatorValue, x_operatorLeft, vp_updL x_workedOut vc v)) : wpX_pushValue post (x_classCount, x_superCount, x_objectCount, x_draftSpecialCount, x_state, x_stepCount, x_latestValue, x_enterGeneric, x_enterPlace, x_frameCount, x_operatorCount, nI vc, x_lineClass, x_lineLength, x_isSealed, x_classHasSlot, x_classSlot, x_superDraft, x_objectClass, x_objectHasSlot, x_objectSlot, x_parameterCount, x_methodGeneric, x_specialiser, x_tokenKind, x_tokenValue, x_tokenCount, x_argument, x_rank, x_orderPlace, x_frameMethod, x_framePlace, x_frameToken, x_frameOperators, x_frameArgument, x_operatorKind, x_operatorValue, x_operatorLeft, x_workedOut) v := by
  unfold wpX_pushValue
  exact ⟨pk_in vc 120 hvc, nm_r (e' := vp_updL x_workedOut vc v) (by rw [bs_clk (by omega)]) (nm_r (nI_1 vc) hp)⟩
theorem mx_wk_long {post : SX → Prop} (hp : post (x_classCount, x_superCount, x_objectCount, x_draftSpecialCount, 7, nI 120, x_latestValue, x_enterGeneric, x_enterPlace, x_frameCount, x_operatorCount, x_valueCount, x_lineClass, x_lineLength, x_isSealed, x_classHasSlot, x_classSlot, x_superDraft, x_objectClass, x_objectHasSlot, x_objectSlot, x_parameterCount, x_methodGeneric, x_specialiser, x_tokenKind, x_tokenValue, x_tokenCount, x_argument, x_rank, x_orderPlace, x_frameMethod, x_framePlace, x_frameToken, x_frameOperators, x_frameArgument, x_operatorKind, x_operatorValue, x_operatorLeft, x_workedOut)) : wpX_workToken post (x_classCount, x_superCount, x_objectCount, x_draftSpecialCount, x_state, nI 120, x_latestValue, x_enterGeneric, x_enterPlace, x_frameCount, x_operatorCount, x_valueCount, x_lineClass, x_lineLength, x_isSealed, x_classHasSlot, x_classSlot, x_superDraft, x_objectClass, x_objectHasSlot, x_objectSlot, x_parameterCount, x_methodGeneric, x_specialiser, x_tokenKind, x_tokenValue, x_tokenCount, x_argument, x_rank, x_orderPlace, x_frameMethod, x_framePlace, x_frameToken, x_frameOperators, x_frameArgument, x_operatorKind, x_operatorValue, x_operatorLeft, x_workedOut) := by
  unfold wpX_workToken
  exact br_t rfl hp
theorem mx_wk_num {post : SX → Prop} {s d m pc : Nat} (hs : s < 120) (hd : d < 8) (hm : m < 24) (hpc : pc < 16) (eM : x_frameMethod d = nI m) (eT : x_frameToken d = nI pc) {vc : Nat} (hvc : vc < 120) (ek : x_tokenKind (16 * m + pc) = nI 0) (hp : post (x_classCount, x_superCount, x_objectCount, x_draftSpecialCount, -3, nI (s + 1), x_latestValue, x_enterGeneric, x_enterPlace, nI (d + 1), x_operatorCount, nI (vc + 1), x_lineClass, x_lineLength, x_isSealed, x_classHasSlot, x_classSlot, x_superDraft, x_objectClass, x_objectHasSlot, x_objectSlot, x_parameterCount, x_methodGeneric, x_specialiser, x_tokenKind, x_tokenValue, x_tokenCount, x_argument, x_rank, x_orderPlace, x_frameMethod, x_framePlace, upd x_frameToken d (nI (pc + 1)), x_frameOperators, x_frameArgument, x_operatorKind, x_operatorValue, x_operatorLeft, vp_updL x_workedOut vc (x_tokenValue (16 * m + pc)).toInt64)) : wpX_workToken post (x_classCount, x_superCount, x_objectCount, x_draftSpecialCount, x_state, nI s, x_latestValue, x_enterGeneric, x_enterPlace, nI (d + 1), x_operatorCount, nI vc, x_lineClass, x_lineLength, x_isSealed, x_classHasSlot, x_classSlot, x_superDraft, x_objectClass, x_objectHasSlot, x_objectSlot, x_parameterCount, x_methodGeneric, x_specialiser, x_tokenKind, x_tokenValue, x_tokenCount, x_argument, x_rank, x_orderPlace, x_frameMethod, x_framePlace, x_frameToken, x_frameOperators, x_frameArgument, x_operatorKind, x_operatorValue, x_operatorLeft, x_workedOut) := by
  unfold wpX_workToken
  refine pk_eq s 120 (fun e => by omega) (fun _ => nm_r (nI_1 s) (nm_r (nI_pred d) ⟨pk_in d 8 hd, pk_in d 8 hd, nm_r (e' := nI (16 * m + pc)) (by rw [bs_clk (n := d) (by omega), eM, eT, bs_xi 16 m pc]) ⟨pk_in d 8 hd, pk_in d 8 hd, nm_r (e' := upd x_frameToken d (nI (pc + 1))) (by rw [bs_clk (n := d) (by omega), eT, nI_1]) ⟨pk_in (16 * m + pc) 400 (by omega), nm_r (e' := x_tokenKind (16 * m + pc)) (by rw [bs_clk (by omega)]) ?_⟩⟩⟩))
  rw [ek]
  refine br_t rfl ⟨pk_in (16 * m + pc) 400 (by omega), ?_⟩
  rw [bs_clk (n := 16 * m + pc) (by omega)]
  exact mx_pushValue hvc hp
theorem mx_wk_arg {post : SX → Prop} {s d m pc : Nat} (hs : s < 120) (hd : d < 8) (hm : m < 24) (hpc : pc < 16) (eM : x_frameMethod d = nI m) (eT : x_frameToken d = nI pc) {vc a : Nat} (hvc : vc < 120) (ha : a < 3) (ek : x_tokenKind (16 * m + pc) = nI 1) (ea : x_tokenValue (16 * m + pc) = nI a) (hp : post (x_classCount, x_superCount, x_objectCount, x_draftSpecialCount, -3, nI (s + 1), x_latestValue, x_enterGeneric, x_enterPlace, nI (d + 1), x_operatorCount, nI (vc + 1), x_lineClass, x_lineLength, x_isSealed, x_classHasSlot, x_classSlot, x_superDraft, x_objectClass, x_objectHasSlot, x_objectSlot, x_parameterCount, x_methodGeneric, x_specialiser, x_tokenKind, x_tokenValue, x_tokenCount, x_argument, x_rank, x_orderPlace, x_frameMethod, x_framePlace, upd x_frameToken d (nI (pc + 1)), x_frameOperators, x_frameArgument, x_operatorKind, x_operatorValue, x_operatorLeft, vp_updL x_workedOut vc (x_frameArgument (3 * d + a)))) : wpX_workToken post (x_classCount, x_superCount, x_objectCount, x_draftSpecialCount, x_state, nI s, x_latestValue, x_enterGeneric, x_enterPlace, nI (d + 1), x_operatorCount, nI vc, x_lineClass, x_lineLength, x_isSealed, x_classHasSlot, x_classSlot, x_superDraft, x_objectClass, x_objectHasSlot, x_objectSlot, x_parameterCount, x_methodGeneric, x_specialiser, x_tokenKind, x_tokenValue, x_tokenCount, x_argument, x_rank, x_orderPlace, x_frameMethod, x_framePlace, x_frameToken, x_frameOperators, x_frameArgument, x_operatorKind, x_operatorValue, x_operatorLeft, x_workedOut) := by
  unfold wpX_workToken
  refine pk_eq s 120 (fun e => by omega) (fun _ => nm_r (nI_1 s) (nm_r (nI_pred d) ⟨pk_in d 8 hd, pk_in d 8 hd, nm_r (e' := nI (16 * m + pc)) (by rw [bs_clk (n := d) (by omega), eM, eT, bs_xi 16 m pc]) ⟨pk_in d 8 hd, pk_in d 8 hd, nm_r (e' := upd x_frameToken d (nI (pc + 1))) (by rw [bs_clk (n := d) (by omega), eT, nI_1]) ⟨pk_in (16 * m + pc) 400 (by omega), nm_r (e' := x_tokenKind (16 * m + pc)) (by rw [bs_clk (by omega)]) ?_⟩⟩⟩))
  rw [ek]
  refine br_f (by decide) (br_t rfl ⟨pk_in (16 * m + pc) 400 (by omega), ?_⟩)
  rw [bs_clk (n := 16 * m + pc) (by omega), ea, bs_xi 3 d a]
  refine ⟨pk_in (3 * d + a) 24 (by omega), ?_⟩
  rw [bs_clk (n := 3 * d + a) (by omega)]
  exact mx_pushValue hvc hp
theorem mx_askNext {post : SX → Prop} {d m pl : Nat} (hd : d < 8) (hm : m < 24) (eM : x_frameMethod d = nI m) (eP : x_framePlace d = nI pl) (hp : ∀ ag : Nat → Int64, (∀ q, q < 3 → ag q = x_frameArgument (3 * d + q)) → post (x_classCount, x_superCount, x_objectCount, x_draftSpecialCount, -1, x_stepCount, x_latestValue, x_methodGeneric m, nI (pl + 1), x_frameCount, x_operatorCount, x_valueCount, x_lineClass, x_lineLength, x_isSealed, x_classHasSlot, x_classSlot, x_superDraft, x_objectClass, x_objectHasSlot, x_objectSlot, x_parameterCount, x_methodGeneric, x_specialiser, x_tokenKind, x_tokenValue, x_tokenCount, ag, x_rank, x_orderPlace, x_frameMethod, x_framePlace, x_frameToken, x_frameOperators, x_frameArgument, x_operatorKind, x_operatorValue, x_operatorLeft, x_workedOut)) : wpX_askNext post (x_classCount, x_superCount, x_objectCount, x_draftSpecialCount, x_state, x_stepCount, x_latestValue, x_enterGeneric, x_enterPlace, x_frameCount, x_operatorCount, x_valueCount, x_lineClass, x_lineLength, x_isSealed, x_classHasSlot, x_classSlot, x_superDraft, x_objectClass, x_objectHasSlot, x_objectSlot, x_parameterCount, x_methodGeneric, x_specialiser, x_tokenKind, x_tokenValue, x_tokenCount, x_argument, x_rank, x_orderPlace, x_frameMethod, x_framePlace, x_frameToken, x_frameOperators, x_frameArgument, x_operatorKind, x_operatorValue, x_operatorLeft, x_workedOut) (nI d) := by
  unfold wpX_askNext
  refine loop_0 (σ := Nat → Int64) (fun n i s => wX_askNext_2 post (nI d) x_classCount x_superCount x_objectCount x_draftSpecialCount x_state x_stepCount x_latestValue x_enterGeneric x_enterPlace x_frameCount x_operatorCount x_valueCount n (nI i) x_lineClass x_lineLength x_isSealed x_classHasSlot x_classSlot x_superDraft x_objectClass x_objectHasSlot x_objectSlot x_parameterCount x_methodGeneric x_specialiser x_tokenKind x_tokenValue x_tokenCount s x_rank x_orderPlace x_frameMethod x_framePlace x_frameToken x_frameOperators x_frameArgument x_operatorKind x_operatorValue x_operatorLeft x_workedOut) (fun i s => ∀ q, q < i → s q = x_frameArgument (3 * d + q)) 3 x_argument lt_0 ?_ ?_
  · intro n s hI
    refine br_t (nI_le (Nat.le_refl _) (by omega)) ⟨pk_in d 8 hd, ?_⟩
    rw [bs_clk (n := d) (by omega), eM]
    refine ⟨pk_in m 24 hm, nm_r (e' := x_methodGeneric m) (by rw [bs_clk (by omega)]) ⟨pk_in d 8 hd, nm_r (e' := nI (pl + 1)) (by rw [eP, nI_1]) (hp s hI)⟩⟩
  · intro n i s hi hI k
    refine br_f (nI_ge (b := 3) hi (by omega)) ⟨pk_in (3 * d + i) 24 (by omega) (bs_xi 3 d i), pk_in i 3 hi, nm_r (e' := vp_updL s i (x_frameArgument (3 * d + i))) (by rw [bs_xi 3 d i, bs_clk (n := i) (by omega), bs_clk (n := 3 * d + i) (by omega)]) (nm_r (nI_1 i) (k _ (fun q hq => ?_)))⟩
    by_cases e : q = i
    · rw [e, pk_uLs]
    · rw [pk_uLn e]; exact hI q (by omega)
theorem mx_wk_next {post : SX → Prop} {s d m pc : Nat} (hs : s < 120) (hd : d < 8) (hm : m < 24) (hpc : pc < 16) (eM : x_frameMethod d = nI m) (eT : x_frameToken d = nI pc) {pl : Nat} (eP : x_framePlace d = nI pl) (ek : x_tokenKind (16 * m + pc) = nI 2) (hp : ∀ ag : Nat → Int64, (∀ q, q < 3 → ag q = x_frameArgument (3 * d + q)) → post (x_classCount, x_superCount, x_objectCount, x_draftSpecialCount, -1, nI (s + 1), x_latestValue, x_methodGeneric m, nI (pl + 1), nI (d + 1), x_operatorCount, x_valueCount, x_lineClass, x_lineLength, x_isSealed, x_classHasSlot, x_classSlot, x_superDraft, x_objectClass, x_objectHasSlot, x_objectSlot, x_parameterCount, x_methodGeneric, x_specialiser, x_tokenKind, x_tokenValue, x_tokenCount, ag, x_rank, x_orderPlace, x_frameMethod, x_framePlace, upd x_frameToken d (nI (pc + 1)), x_frameOperators, x_frameArgument, x_operatorKind, x_operatorValue, x_operatorLeft, x_workedOut)) : wpX_workToken post (x_classCount, x_superCount, x_objectCount, x_draftSpecialCount, x_state, nI s, x_latestValue, x_enterGeneric, x_enterPlace, nI (d + 1), x_operatorCount, x_valueCount, x_lineClass, x_lineLength, x_isSealed, x_classHasSlot, x_classSlot, x_superDraft, x_objectClass, x_objectHasSlot, x_objectSlot, x_parameterCount, x_methodGeneric, x_specialiser, x_tokenKind, x_tokenValue, x_tokenCount, x_argument, x_rank, x_orderPlace, x_frameMethod, x_framePlace, x_frameToken, x_frameOperators, x_frameArgument, x_operatorKind, x_operatorValue, x_operatorLeft, x_workedOut) := by
  unfold wpX_workToken
  refine pk_eq s 120 (fun e => by omega) (fun _ => nm_r (nI_1 s) (nm_r (nI_pred d) ⟨pk_in d 8 hd, pk_in d 8 hd, nm_r (e' := nI (16 * m + pc)) (by rw [bs_clk (n := d) (by omega), eM, eT, bs_xi 16 m pc]) ⟨pk_in d 8 hd, pk_in d 8 hd, nm_r (e' := upd x_frameToken d (nI (pc + 1))) (by rw [bs_clk (n := d) (by omega), eT, nI_1]) ⟨pk_in (16 * m + pc) 400 (by omega), nm_r (e' := x_tokenKind (16 * m + pc)) (by rw [bs_clk (by omega)]) ?_⟩⟩⟩))
  rw [ek]
  refine br_f (by decide) (br_f (by decide) (br_t rfl ?_))
  exact mx_askNext hd hm eM eP (fun ag hag => hp ag hag)
theorem mx_wk_make {post : SX → Prop} {s d m pc : Nat} (hs : s < 120) (hd : d < 8) (hm : m < 24) (hpc : pc < 16) (eM : x_frameMethod d = nI m) (eT : x_frameToken d = nI pc) {nc no vc c l : Nat} (hcls : rl_cls nc x_lineClass x_lineLength) (hc : c < nc) (hl : l ≤ 16) (el : x_lineLength c = nI l) (hno : no ≤ 20) (hvc : vc < 120) (ek : x_tokenKind (16 * m + pc) = nI 12) (ea : x_tokenValue (16 * m + pc) = nI c) (h5 : c = 1 → post (x_classCount, x_superCount, nI no, x_draftSpecialCount, 5, nI (s + 1), x_latestValue, x_enterGeneric, x_enterPlace, nI (d + 1), x_operatorCount, nI vc, x_lineClass, x_lineLength, x_isSealed, x_classHasSlot, x_classSlot, x_superDraft, x_objectClass, x_objectHasSlot, x_objectSlot, x_parameterCount, x_methodGeneric, x_specialiser, x_tokenKind, x_tokenValue, x_tokenCount, x_argument, x_rank, x_orderPlace, x_frameMethod, x_framePlace, upd x_frameToken d (nI (pc + 1)), x_frameOperators, x_frameArgument, x_operatorKind, x_operatorValue, x_operatorLeft, x_workedOut)) (h8 : c ≠ 1 → no = 20 → post (x_classCount, x_superCount, nI no, x_draftSpecialCount, 8, nI (s + 1), x_latestValue, x_enterGeneric, x_enterPlace, nI (d + 1), x_operatorCount, nI vc, x_lineClass, x_lineLength, x_isSealed, x_classHasSlot, x_classSlot, x_superDraft, x_objectClass, x_objectHasSlot, x_objectSlot, x_parameterCount, x_methodGeneric, x_specialiser, x_tokenKind, x_tokenValue, x_tokenCount, x_argument, x_rank, x_orderPlace, x_frameMethod, x_framePlace, upd x_frameToken d (nI (pc + 1)), x_frameOperators, x_frameArgument, x_operatorKind, x_operatorValue, x_operatorLeft, x_workedOut)) (hp : c ≠ 1 → no < 20 → ∀ (OH' : Nat → Int32) (OS' : Nat → Int64), mk_PX x_lineClass x_classHasSlot x_classSlot x_objectHasSlot x_objectSlot c l no OH' OS' 4 → post (x_classCount, x_superCount, nI (no + 1), x_draftSpecialCount, -3, nI (s + 1), x_latestValue, x_enterGeneric, x_enterPlace, nI (d + 1), x_operatorCount, nI (vc + 1), x_lineClass, x_lineLength, x_isSealed, x_classHasSlot, x_classSlot, x_superDraft, upd x_objectClass no (nI c), OH', OS', x_parameterCount, x_methodGeneric, x_specialiser, x_tokenKind, x_tokenValue, x_tokenCount, x_argument, x_rank, x_orderPlace, x_frameMethod, x_framePlace, upd x_frameToken d (nI (pc + 1)), x_frameOperators, x_frameArgument, x_operatorKind, x_operatorValue, x_operatorLeft, vp_updL x_workedOut vc (lN (4294967296 + no)))) : wpX_workToken post (x_classCount, x_superCount, nI no, x_draftSpecialCount, x_state, nI s, x_latestValue, x_enterGeneric, x_enterPlace, nI (d + 1), x_operatorCount, nI vc, x_lineClass, x_lineLength, x_isSealed, x_classHasSlot, x_classSlot, x_superDraft, x_objectClass, x_objectHasSlot, x_objectSlot, x_parameterCount, x_methodGeneric, x_specialiser, x_tokenKind, x_tokenValue, x_tokenCount, x_argument, x_rank, x_orderPlace, x_frameMethod, x_framePlace, x_frameToken, x_frameOperators, x_frameArgument, x_operatorKind, x_operatorValue, x_operatorLeft, x_workedOut) := by
  have h16 := hcls.2.1
  unfold wpX_workToken
  refine pk_eq s 120 (fun e => by omega) (fun _ => nm_r (nI_1 s) (nm_r (nI_pred d) ⟨pk_in d 8 hd, pk_in d 8 hd, nm_r (e' := nI (16 * m + pc)) (by rw [bs_clk (n := d) (by omega), eM, eT, bs_xi 16 m pc]) ⟨pk_in d 8 hd, pk_in d 8 hd, nm_r (e' := upd x_frameToken d (nI (pc + 1))) (by rw [bs_clk (n := d) (by omega), eT, nI_1]) ⟨pk_in (16 * m + pc) 400 (by omega), nm_r (e' := x_tokenKind (16 * m + pc)) (by rw [bs_clk (by omega)]) ?_⟩⟩⟩))
  rw [ek]
  refine br_f (by decide) (br_f (by decide) (br_f (by decide) (br_t rfl ⟨pk_in (16 * m + pc) 400 (by omega), ?_⟩)))
  rw [bs_clk (n := 16 * m + pc) (by omega), ea]
  unfold wpX_workMake
  refine pk_eq c 1 (fun e => h5 e) (fun e1 => pk_eq no 20 (fun e => h8 e1 e) (fun e2 => ?_))
  refine mx_addObject hcls hc hl el (by omega) (fun OH' OS' hX => ?_)
  have ev : (4294967296 : Int64) + (nI no).toInt64 = lN (4294967296 + no) := by rw [ob_no hno, ob_K, lN_add]
  dsimp only
  rw [ev]
  exact mx_pushValue hvc (hp e1 (by omega) OH' OS' hX)
theorem mx_wk_op {post : SX → Prop} {s d m pc : Nat} (hs : s < 120) (hd : d < 8) (hm : m < 24) (hpc : pc < 16) (eM : x_frameMethod d = nI m) (eT : x_frameToken d = nI pc) {nc oc q : Nat} (hoc : oc < 120) (hpar : rl_par x_parameterCount) (htk : rl_tk nc (x_tokenKind (16 * m + pc)) (x_tokenValue (16 * m + pc))) (ek : x_tokenKind (16 * m + pc) = nI q) (hq3 : 3 ≤ q) (hq11 : q ≤ 11) (hp : post (x_classCount, x_superCount, x_objectCount, x_draftSpecialCount, x_state, nI (s + 1), x_latestValue, x_enterGeneric, x_enterPlace, nI (d + 1), nI (oc + 1), x_valueCount, x_lineClass, x_lineLength, x_isSealed, x_classHasSlot, x_classSlot, x_superDraft, x_objectClass, x_objectHasSlot, x_objectSlot, x_parameterCount, x_methodGeneric, x_specialiser, x_tokenKind, x_tokenValue, x_tokenCount, x_argument, x_rank, x_orderPlace, x_frameMethod, x_framePlace, upd x_frameToken d (nI (pc + 1)), x_frameOperators, x_frameArgument, upd x_operatorKind oc (x_tokenKind (16 * m + pc)), upd x_operatorValue oc (x_tokenValue (16 * m + pc)), upd x_operatorLeft oc (nI (rl_ar x_parameterCount (x_tokenKind (16 * m + pc)) (x_tokenValue (16 * m + pc)))), x_workedOut)) : wpX_workToken post (x_classCount, x_superCount, x_objectCount, x_draftSpecialCount, x_state, nI s, x_latestValue, x_enterGeneric, x_enterPlace, nI (d + 1), nI oc, x_valueCount, x_lineClass, x_lineLength, x_isSealed, x_classHasSlot, x_classSlot, x_superDraft, x_objectClass, x_objectHasSlot, x_objectSlot, x_parameterCount, x_methodGeneric, x_specialiser, x_tokenKind, x_tokenValue, x_tokenCount, x_argument, x_rank, x_orderPlace, x_frameMethod, x_framePlace, x_frameToken, x_frameOperators, x_frameArgument, x_operatorKind, x_operatorValue, x_operatorLeft, x_workedOut) := by
  unfold wpX_workToken
  refine pk_eq s 120 (fun e => by omega) (fun _ => nm_r (nI_1 s) (nm_r (nI_pred d) ⟨pk_in d 8 hd, pk_in d 8 hd, nm_r (e' := nI (16 * m + pc)) (by rw [bs_clk (n := d) (by omega), eM, eT, bs_xi 16 m pc]) ⟨pk_in d 8 hd, pk_in d 8 hd, nm_r (e' := upd x_frameToken d (nI (pc + 1))) (by rw [bs_clk (n := d) (by omega), eT, nI_1]) ⟨pk_in (16 * m + pc) 400 (by omega), nm_r (e' := x_tokenKind (16 * m + pc)) (by rw [bs_clk (by omega)]) ?_⟩⟩⟩))
  rw [ek]
  refine pk_eq q 0 (fun e => by omega) (fun _ => pk_eq q 1 (fun e => by omega) (fun _ => pk_eq q 2 (fun e => by omega) (fun _ => pk_eq q 12 (fun e => by omega) (fun _ => ⟨pk_in (16 * m + pc) 400 (by omega), pk_in (16 * m + pc) 400 (by omega), ?_⟩))))
  rw [bs_clk (n := 16 * m + pc) (by omega)]
  unfold wpX_pushOperator
  refine ⟨pk_in oc 120 hoc, nm_r (e' := upd x_operatorKind oc (x_tokenKind (16 * m + pc))) (by rw [bs_clk (by omega)]) ⟨pk_in oc 120 hoc, nm_r (e' := upd x_operatorValue oc (x_tokenValue (16 * m + pc))) (by rw [bs_clk (by omega)]) (mx_operandCount hpar htk ⟨pk_in oc 120 hoc, nm_r (e' := upd x_operatorLeft oc (nI (rl_ar x_parameterCount (x_tokenKind (16 * m + pc)) (x_tokenValue (16 * m + pc))))) (by rw [bs_clk (by omega)]) (nm_r (nI_1 oc) hp)⟩)⟩⟩
theorem mx_pushFrame {post : SX → Prop} {d m : Nat} (hd : d < 8) (hp : ∀ fA : Nat → Int64, (∀ q, q < 3 → fA (3 * d + q) = x_argument q) → (∀ j, j < 3 * d → fA j = x_frameArgument j) → post (x_classCount, x_superCount, x_objectCount, x_draftSpecialCount, -2, x_stepCount, x_latestValue, x_enterGeneric, x_enterPlace, nI (d + 1), x_operatorCount, x_valueCount, x_lineClass, x_lineLength, x_isSealed, x_classHasSlot, x_classSlot, x_superDraft, x_objectClass, x_objectHasSlot, x_objectSlot, x_parameterCount, x_methodGeneric, x_specialiser, x_tokenKind, x_tokenValue, x_tokenCount, x_argument, x_rank, x_orderPlace, upd x_frameMethod d (nI m), upd x_framePlace d x_enterPlace, upd x_frameToken d 0, upd x_frameOperators d x_operatorCount, fA, x_operatorKind, x_operatorValue, x_operatorLeft, x_workedOut)) : wpX_pushFrame post (x_classCount, x_superCount, x_objectCount, x_draftSpecialCount, x_state, x_stepCount, x_latestValue, x_enterGeneric, x_enterPlace, nI d, x_operatorCount, x_valueCount, x_lineClass, x_lineLength, x_isSealed, x_classHasSlot, x_classSlot, x_superDraft, x_objectClass, x_objectHasSlot, x_objectSlot, x_parameterCount, x_methodGeneric, x_specialiser, x_tokenKind, x_tokenValue, x_tokenCount, x_argument, x_rank, x_orderPlace, x_frameMethod, x_framePlace, x_frameToken, x_frameOperators, x_frameArgument, x_operatorKind, x_operatorValue, x_operatorLeft, x_workedOut) (nI m) := by
  unfold wpX_pushFrame
  refine ⟨pk_in d 8 hd, nm_r (e' := upd x_frameMethod d (nI m)) (by rw [bs_clk (by omega)]) ⟨pk_in d 8 hd, nm_r (e' := upd x_framePlace d x_enterPlace) (by rw [bs_clk (by omega)]) ⟨pk_in d 8 hd, nm_r (e' := upd x_frameToken d 0) (by rw [bs_clk (by omega)]) ⟨pk_in d 8 hd, nm_r (e' := upd x_frameOperators d x_operatorCount) (by rw [bs_clk (by omega)]) ?_⟩⟩⟩⟩
  refine loop_0 (σ := Nat → Int64) (fun n i s => wX_pushFrame_48 post x_classCount x_superCount x_objectCount x_draftSpecialCount x_state x_stepCount x_latestValue x_enterGeneric x_enterPlace (nI d) x_operatorCount x_valueCount n (nI i) x_lineClass x_lineLength x_isSealed x_classHasSlot x_classSlot x_superDraft x_objectClass x_objectHasSlot x_objectSlot x_parameterCount x_methodGeneric x_specialiser x_tokenKind x_tokenValue x_tokenCount x_argument x_rank x_orderPlace (upd x_frameMethod d (nI m)) (upd x_framePlace d x_enterPlace) (upd x_frameToken d 0) (upd x_frameOperators d x_operatorCount) s x_operatorKind x_operatorValue x_operatorLeft x_workedOut) (fun i s => (∀ q, q < i → s (3 * d + q) = x_argument q) ∧ ∀ j, j < 3 * d → s j = x_frameArgument j) 3 x_frameArgument ⟨lt_0, fun _ _ => rfl⟩ ?_ ?_
  · intro n s hI
    exact br_t (nI_le (Nat.le_refl _) (by omega)) (nm_r (nI_1 d) (hp s hI.1 hI.2))
  · intro n i s hi hI k
    refine br_f (nI_ge (b := 3) hi (by omega)) ⟨pk_in i 3 hi, pk_in (3 * d + i) 24 (by omega) (bs_xi 3 d i), nm_r (e' := vp_updL s (3 * d + i) (x_argument i)) (by rw [bs_xi 3 d i, bs_clk (n := i) (by omega), bs_clk (n := 3 * d + i) (by omega)]) (nm_r (nI_1 i) (k _ ⟨fun q hq => ?_, fun j hj => ?_⟩))⟩
    · by_cases e : q = i
      · rw [e, pk_uLs]
      · rw [pk_uLn (by omega)]; exact hI.1 q (by omega)
    · rw [pk_uLn (by omega)]; exact hI.2 j hj
theorem mx_enterMethod {post : SX → Prop} {nc no g p d pl : Nat} {ar : Nat → Int64} {R : Nat → Nat → Int32} {L : Int32} (eR : R = or_R x_lineClass x_lineLength x_objectClass x_specialiser ar p) (eL : L = or_L x_methodGeneric R g p) (hW : or_W nc no g p x_lineClass x_lineLength x_objectClass x_parameterCount ar) (ha : ∀ k, k < p → x_argument k = ar k) (hpl : pl < 25) (hd : d ≤ 8)
    (h2 : or_mn R p L ≤ pl → ¬ or_sq R p L (or_mn R p L) = 0 → ∀ rk op, post (x_classCount, x_superCount, x_objectCount, x_draftSpecialCount, 2, x_stepCount, x_latestValue, nI g, nI pl, nI d, x_operatorCount, x_valueCount, x_lineClass, x_lineLength, x_isSealed, x_classHasSlot, x_classSlot, x_superDraft, x_objectClass, x_objectHasSlot, x_objectSlot, x_parameterCount, x_methodGeneric, x_specialiser, x_tokenKind, x_tokenValue, x_tokenCount, x_argument, rk, op, x_frameMethod, x_framePlace, x_frameToken, x_frameOperators, x_frameArgument, x_operatorKind, x_operatorValue, x_operatorLeft, x_workedOut))
    (h1 : or_mn R p L ≤ pl → or_sq R p L (or_mn R p L) = 0 → ∀ rk op, post (x_classCount, x_superCount, x_objectCount, x_draftSpecialCount, bs_ci (pl = 0) 1 3, x_stepCount, x_latestValue, nI g, nI pl, nI d, x_operatorCount, x_valueCount, x_lineClass, x_lineLength, x_isSealed, x_classHasSlot, x_classSlot, x_superDraft, x_objectClass, x_objectHasSlot, x_objectSlot, x_parameterCount, x_methodGeneric, x_specialiser, x_tokenKind, x_tokenValue, x_tokenCount, x_argument, rk, op, x_frameMethod, x_framePlace, x_frameToken, x_frameOperators, x_frameArgument, x_operatorKind, x_operatorValue, x_operatorLeft, x_workedOut))
    (h6 : pl < or_mn R p L → d = 8 → ∀ rk op, post (x_classCount, x_superCount, x_objectCount, x_draftSpecialCount, 6, x_stepCount, x_latestValue, nI g, nI pl, nI d, x_operatorCount, x_valueCount, x_lineClass, x_lineLength, x_isSealed, x_classHasSlot, x_classSlot, x_superDraft, x_objectClass, x_objectHasSlot, x_objectSlot, x_parameterCount, x_methodGeneric, x_specialiser, x_tokenKind, x_tokenValue, x_tokenCount, x_argument, rk, op, x_frameMethod, x_framePlace, x_frameToken, x_frameOperators, x_frameArgument, x_operatorKind, x_operatorValue, x_operatorLeft, x_workedOut))
    (hp : pl < or_mn R p L → d < 8 → ∀ rk op (fA : Nat → Int64), (∀ q, q < 3 → fA (3 * d + q) = x_argument q) → (∀ j, j < 3 * d → fA j = x_frameArgument j) → post (x_classCount, x_superCount, x_objectCount, x_draftSpecialCount, -2, x_stepCount, x_latestValue, nI g, nI pl, nI (d + 1), x_operatorCount, x_valueCount, x_lineClass, x_lineLength, x_isSealed, x_classHasSlot, x_classSlot, x_superDraft, x_objectClass, x_objectHasSlot, x_objectSlot, x_parameterCount, x_methodGeneric, x_specialiser, x_tokenKind, x_tokenValue, x_tokenCount, x_argument, rk, op, upd x_frameMethod d (nI (or_ld R p (or_sq R p L pl))), upd x_framePlace d (nI pl), upd x_frameToken d 0, upd x_frameOperators d x_operatorCount, fA, x_operatorKind, x_operatorValue, x_operatorLeft, x_workedOut)) : wpX_enterMethod post (x_classCount, x_superCount, x_objectCount, x_draftSpecialCount, x_state, x_stepCount, x_latestValue, nI g, nI pl, nI d, x_operatorCount, x_valueCount, x_lineClass, x_lineLength, x_isSealed, x_classHasSlot, x_classSlot, x_superDraft, x_objectClass, x_objectHasSlot, x_objectSlot, x_parameterCount, x_methodGeneric, x_specialiser, x_tokenKind, x_tokenValue, x_tokenCount, x_argument, x_rank, x_orderPlace, x_frameMethod, x_framePlace, x_frameToken, x_frameOperators, x_frameArgument, x_operatorKind, x_operatorValue, x_operatorLeft, x_workedOut) := by
  unfold wpX_enterMethod
  refine mx_findOrder hW ha (fun rk op ho => ⟨pk_in pl 25 hpl, nm_r (e' := or_ox R p (or_sq R p L pl)) (by rw [bs_clk (by omega), ho pl hpl, eL, eR]) ?_⟩)
  by_cases hlt : pl < or_mn R p L
  · have hl := or_mn_lt hlt
    rw [or_ox_lt hlt]
    refine br_f (bs_n2 (by omega)) (br_f (bs_n1 (by omega)) (pk_eq d 8 (fun e => h6 hlt e rk op) (fun e => ?_)))
    exact mx_pushFrame (by omega) (fun fA h1 h2 => hp hlt (by omega) rk op fA h1 h2)
  · rw [or_ox_ge (by omega)]
    by_cases hz : or_sq R p L (or_mn R p L) = 0
    · rw [bs_ct hz]
      have h1' := h1 (by omega) hz rk op
      refine br_f (by decide) (br_t rfl (pk_eq pl 0 (fun e => ?_) (fun e => ?_)))
      · rw [bs_ct e] at h1'; exact h1'
      · rw [bs_cf e] at h1'; exact h1'
    · rw [bs_cf hz]
      exact br_t rfl (h2 (by omega) hz rk op)
end
end
section
/-! X: values taken -/
section
variable {x_classCount : Int32} {x_superCount : Int32} {x_objectCount : Int32} {x_draftSpecialCount : Int32} {x_state : Int32} {x_stepCount : Int32} {x_latestValue : Int64} {x_enterGeneric : Int32} {x_enterPlace : Int32} {x_frameCount : Int32} {x_operatorCount : Int32} {x_valueCount : Int32} {x_lineClass : Nat → Int32} {x_lineLength : Nat → Int32} {x_isSealed : Nat → Int32} {x_classHasSlot : Nat → Int32} {x_classSlot : Nat → Int32} {x_superDraft : Nat → Int32} {x_objectClass : Nat → Int32} {x_objectHasSlot : Nat → Int32} {x_objectSlot : Nat → Int64} {x_parameterCount : Nat → Int32} {x_methodGeneric : Nat → Int32} {x_specialiser : Nat → Int64} {x_tokenKind : Nat → Int32} {x_tokenValue : Nat → Int32} {x_tokenCount : Nat → Int32} {x_argument : Nat → Int64} {x_rank : Nat → Int32} {x_orderPlace : Nat → Int32} {x_frameMethod : Nat → Int32} {x_framePlace : Nat → Int32} {x_frameToken : Nat → Int32} {x_frameOperators : Nat → Int32} {x_frameArgument : Nat → Int64} {x_operatorKind : Nat → Int32} {x_operatorValue : Nat → Int32} {x_operatorLeft : Nat → Int32} {x_workedOut : Nat → Int64}
theorem mx_endOf {post : Int32 → Prop} {nc m t pc s : Nat} (hm : m < 25) (hpar : rl_par x_parameterCount) (ht : t ≤ 16) (et : x_tokenCount m = nI t) (hk : ∀ i, i < t → rl_tk nc (x_tokenKind (16 * m + i)) (x_tokenValue (16 * m + i))) (hs : pc + s ≤ t) (h : rl_pn (rl_am x_parameterCount x_tokenKind x_tokenValue m) s pc 1) (hp : post (nI (pc + s))) : wpX_endOfExpression post (x_classCount, x_superCount, x_objectCount, x_draftSpecialCount, x_state, x_stepCount, x_latestValue, x_enterGeneric, x_enterPlace, x_frameCount, x_operatorCount, x_valueCount, x_lineClass, x_lineLength, x_isSealed, x_classHasSlot, x_classSlot, x_superDraft, x_objectClass, x_objectHasSlot, x_objectSlot, x_parameterCount, x_methodGeneric, x_specialiser, x_tokenKind, x_tokenValue, x_tokenCount, x_argument, x_rank, x_orderPlace, x_frameMethod, x_framePlace, x_frameToken, x_frameOperators, x_frameArgument, x_operatorKind, x_operatorValue, x_operatorLeft, x_workedOut) (nI m) (nI pc) := by
  unfold wpX_endOfExpression
  exact ⟨s, mx_endA hm hpar ht et hk s pc 1 (by omega) (by omega) hs h hp⟩
theorem mx_tk_leave {post : SX → Prop} {d oc : Nat} (hd : d < 8) (hoc : oc < 1000) (eO : x_frameOperators d = nI oc) (h0 : d = 0 → post (x_classCount, x_superCount, x_objectCount, x_draftSpecialCount, 0, x_stepCount, x_workedOut 0, x_enterGeneric, x_enterPlace, nI 0, nI oc, x_valueCount, x_lineClass, x_lineLength, x_isSealed, x_classHasSlot, x_classSlot, x_superDraft, x_objectClass, x_objectHasSlot, x_objectSlot, x_parameterCount, x_methodGeneric, x_specialiser, x_tokenKind, x_tokenValue, x_tokenCount, x_argument, x_rank, x_orderPlace, x_frameMethod, x_framePlace, x_frameToken, x_frameOperators, x_frameArgument, x_operatorKind, x_operatorValue, x_operatorLeft, x_workedOut)) (hp : d ≠ 0 → post (x_classCount, x_superCount, x_objectCount, x_draftSpecialCount, x_state, x_stepCount, x_latestValue, x_enterGeneric, x_enterPlace, nI d, nI oc, x_valueCount, x_lineClass, x_lineLength, x_isSealed, x_classHasSlot, x_classSlot, x_superDraft, x_objectClass, x_objectHasSlot, x_objectSlot, x_parameterCount, x_methodGeneric, x_specialiser, x_tokenKind, x_tokenValue, x_tokenCount, x_argument, x_rank, x_orderPlace, x_frameMethod, x_framePlace, x_frameToken, x_frameOperators, x_frameArgument, x_operatorKind, x_operatorValue, x_operatorLeft, x_workedOut)) : wpX_takeValue post (x_classCount, x_superCount, x_objectCount, x_draftSpecialCount, x_state, x_stepCount, x_latestValue, x_enterGeneric, x_enterPlace, nI (d + 1), nI oc, x_valueCount, x_lineClass, x_lineLength, x_isSealed, x_classHasSlot, x_classSlot, x_superDraft, x_objectClass, x_objectHasSlot, x_objectSlot, x_parameterCount, x_methodGeneric, x_specialiser, x_tokenKind, x_tokenValue, x_tokenCount, x_argument, x_rank, x_orderPlace, x_frameMethod, x_framePlace, x_frameToken, x_frameOperators, x_frameArgument, x_operatorKind, x_operatorValue, x_operatorLeft, x_workedOut) := by
  unfold wpX_takeValue
  refine nm_r (nI_pred d) ⟨pk_in d 8 hd, ?_⟩
  rw [bs_clk (n := d) (by omega), eO]
  refine br_t rfl ?_
  unfold wpX_leaveFrame
  refine nm_r (nI_pred d) (pk_eq d 0 (fun e => nm_e ?_) (fun e => hp e))
  subst e
  exact h0 rfl
theorem mx_tk_seq {post : SX → Prop} {d t fo : Nat} (hd : d < 8) (ht : t < 120) (hfo : fo ≤ t) (eO : x_frameOperators d = nI fo) {vc lf : Nat} (eK : x_operatorKind t = nI 10) (eL : x_operatorLeft t = nI (lf + 1)) (hp : post (x_classCount, x_superCount, x_objectCount, x_draftSpecialCount, -2, x_stepCount, x_latestValue, x_enterGeneric, x_enterPlace, nI (d + 1), nI t, nI vc, x_lineClass, x_lineLength, x_isSealed, x_classHasSlot, x_classSlot, x_superDraft, x_objectClass, x_objectHasSlot, x_objectSlot, x_parameterCount, x_methodGeneric, x_specialiser, x_tokenKind, x_tokenValue, x_tokenCount, x_argument, x_rank, x_orderPlace, x_frameMethod, x_framePlace, x_frameToken, x_frameOperators, x_frameArgument, x_operatorKind, x_operatorValue, upd x_operatorLeft t (nI lf), x_workedOut)) : wpX_takeValue post (x_classCount, x_superCount, x_objectCount, x_draftSpecialCount, x_state, x_stepCount, x_latestValue, x_enterGeneric, x_enterPlace, nI (d + 1), nI (t + 1), nI (vc + 1), x_lineClass, x_lineLength, x_isSealed, x_classHasSlot, x_classSlot, x_superDraft, x_objectClass, x_objectHasSlot, x_objectSlot, x_parameterCount, x_methodGeneric, x_specialiser, x_tokenKind, x_tokenValue, x_tokenCount, x_argument, x_rank, x_orderPlace, x_frameMethod, x_framePlace, x_frameToken, x_frameOperators, x_frameArgument, x_operatorKind, x_operatorValue, x_operatorLeft, x_workedOut) := by
  unfold wpX_takeValue
  refine nm_r (nI_pred d) ⟨pk_in d 8 hd, ?_⟩
  rw [bs_clk (n := d) (by omega), eO]
  refine pk_eq (t + 1) fo (fun e => by omega) (fun _ => nm_r (nI_pred t) ⟨pk_in t 120 ht, pk_in t 120 ht, nm_r (e' := upd x_operatorLeft t (nI lf)) (by rw [bs_clk (by omega), eL, nI_pred]) ⟨pk_in t 120 ht, ?_⟩⟩)
  rw [bs_clk (n := t) (by omega), eK]
  refine br_f (by decide) ⟨pk_in t 120 ht, br_t rfl (nm_r (nI_pred vc) (nm_r (nI_pred t) hp))⟩
theorem mx_tk_more {post : SX → Prop} {d t fo : Nat} (hd : d < 8) (ht : t < 120) (hfo : fo ≤ t) (eO : x_frameOperators d = nI fo) {q lf : Nat} (hq : q ≤ 12) (h9 : q ≠ 9) (h10 : q ≠ 10) (hlf : 0 < lf) (hlf2 : lf < 1000) (eK : x_operatorKind t = nI q) (eL : x_operatorLeft t = nI (lf + 1)) (hp : post (x_classCount, x_superCount, x_objectCount, x_draftSpecialCount, -2, x_stepCount, x_latestValue, x_enterGeneric, x_enterPlace, nI (d + 1), nI (t + 1), x_valueCount, x_lineClass, x_lineLength, x_isSealed, x_classHasSlot, x_classSlot, x_superDraft, x_objectClass, x_objectHasSlot, x_objectSlot, x_parameterCount, x_methodGeneric, x_specialiser, x_tokenKind, x_tokenValue, x_tokenCount, x_argument, x_rank, x_orderPlace, x_frameMethod, x_framePlace, x_frameToken, x_frameOperators, x_frameArgument, x_operatorKind, x_operatorValue, upd x_operatorLeft t (nI lf), x_workedOut)) : wpX_takeValue post (x_classCount, x_superCount, x_objectCount, x_draftSpecialCount, x_state, x_stepCount, x_latestValue, x_enterGeneric, x_enterPlace, nI (d + 1), nI (t + 1), x_valueCount, x_lineClass, x_lineLength, x_isSealed, x_classHasSlot, x_classSlot, x_superDraft, x_objectClass, x_objectHasSlot, x_objectSlot, x_parameterCount, x_methodGeneric, x_specialiser, x_tokenKind, x_tokenValue, x_tokenCount, x_argument, x_rank, x_orderPlace, x_frameMethod, x_framePlace, x_frameToken, x_frameOperators, x_frameArgument, x_operatorKind, x_operatorValue, x_operatorLeft, x_workedOut) := by
  unfold wpX_takeValue
  refine nm_r (nI_pred d) ⟨pk_in d 8 hd, ?_⟩
  rw [bs_clk (n := d) (by omega), eO]
  refine pk_eq (t + 1) fo (fun e => by omega) (fun _ => nm_r (nI_pred t) ⟨pk_in t 120 ht, pk_in t 120 ht, nm_r (e' := upd x_operatorLeft t (nI lf)) (by rw [bs_clk (by omega), eL, nI_pred]) ⟨pk_in t 120 ht, ?_⟩⟩)
  rw [bs_clk (n := t) (by omega), eK]
  refine pk_eq q 9 (fun e => absurd e h9) (fun _ => ⟨pk_in t 120 ht, pk_eq q 10 (fun e => absurd e h10) (fun _ => ⟨pk_in t 120 ht, ?_⟩)⟩)
  rw [pk_us]
  exact br_f (nI_nle hlf (by omega)) hp
theorem mx_tk_app {post : SX → Prop} {d t fo : Nat} (hd : d < 8) (ht : t < 120) (hfo : fo ≤ t) (eO : x_frameOperators d = nI fo) {q : Nat} {w : Int32} (hq : q ≤ 12) (h9 : q ≠ 9) (h10 : q ≠ 10) (eK : x_operatorKind t = nI q) (eL : x_operatorLeft t = nI 1) (eV : x_operatorValue t = w) (hp : wpX_apply post (x_classCount, x_superCount, x_objectCount, x_draftSpecialCount, x_state, x_stepCount, x_latestValue, x_enterGeneric, x_enterPlace, nI (d + 1), nI t, x_valueCount, x_lineClass, x_lineLength, x_isSealed, x_classHasSlot, x_classSlot, x_superDraft, x_objectClass, x_objectHasSlot, x_objectSlot, x_parameterCount, x_methodGeneric, x_specialiser, x_tokenKind, x_tokenValue, x_tokenCount, x_argument, x_rank, x_orderPlace, x_frameMethod, x_framePlace, x_frameToken, x_frameOperators, x_frameArgument, x_operatorKind, x_operatorValue, upd x_operatorLeft t (nI 0), x_workedOut) (nI q) w) : wpX_takeValue post (x_classCount, x_superCount, x_objectCount, x_draftSpecialCount, x_state, x_stepCount, x_latestValue, x_enterGeneric, x_enterPlace, nI (d + 1), nI (t + 1), x_valueCount, x_lineClass, x_lineLength, x_isSealed, x_classHasSlot, x_classSlot, x_superDraft, x_objectClass, x_objectHasSlot, x_objectSlot, x_parameterCount, x_methodGeneric, x_specialiser, x_tokenKind, x_tokenValue, x_tokenCount, x_argument, x_rank, x_orderPlace, x_frameMethod, x_framePlace, x_frameToken, x_frameOperators, x_frameArgument, x_operatorKind, x_operatorValue, x_operatorLeft, x_workedOut) := by
  have lf : Nat := 0
  unfold wpX_takeValue
  refine nm_r (nI_pred d) ⟨pk_in d 8 hd, ?_⟩
  rw [bs_clk (n := d) (by omega), eO]
  refine pk_eq (t + 1) fo (fun e => by omega) (fun _ => nm_r (nI_pred t) ⟨pk_in t 120 ht, pk_in t 120 ht, nm_r (e' := upd x_operatorLeft t (nI 0)) (by rw [bs_clk (by omega), eL, nI_pred]) ⟨pk_in t 120 ht, ?_⟩⟩)
  rw [bs_clk (n := t) (by omega), eK]
  refine pk_eq q 9 (fun e => absurd e h9) (fun _ => ⟨pk_in t 120 ht, pk_eq q 10 (fun e => absurd e h10) (fun _ => ⟨pk_in t 120 ht, ?_⟩)⟩)
  rw [pk_us, eV]
  exact br_t (by decide) (nm_r (nI_pred t) ⟨pk_in t 120 ht, pk_in t 120 ht, hp⟩)
theorem mx_tk_if2 {post : SX → Prop} {d t fo : Nat} (hd : d < 8) (ht : t < 120) (hfo : fo ≤ t) (eO : x_frameOperators d = nI fo) {nc m n pc s : Nat} (hm : m < 24) (hpar : rl_par x_parameterCount) (hn : n ≤ 16) (en : x_tokenCount m = nI n) (hk : ∀ i, i < n → rl_tk nc (x_tokenKind (16 * m + i)) (x_tokenValue (16 * m + i))) (eM : x_frameMethod d = nI m) (eT : x_frameToken d = nI pc) (hs : pc + s ≤ n) (h : rl_pn (rl_am x_parameterCount x_tokenKind x_tokenValue m) s pc 1) (eK : x_operatorKind t = nI 9) (eL : x_operatorLeft t = nI 2) (hp : post (x_classCount, x_superCount, x_objectCount, x_draftSpecialCount, x_state, x_stepCount, x_latestValue, x_enterGeneric, x_enterPlace, nI (d + 1), nI t, x_valueCount, x_lineClass, x_lineLength, x_isSealed, x_classHasSlot, x_classSlot, x_superDraft, x_objectClass, x_objectHasSlot, x_objectSlot, x_parameterCount, x_methodGeneric, x_specialiser, x_tokenKind, x_tokenValue, x_tokenCount, x_argument, x_rank, x_orderPlace, x_frameMethod, x_framePlace, upd x_frameToken d (nI (pc + s)), x_frameOperators, x_frameArgument, x_operatorKind, x_operatorValue, upd x_operatorLeft t (nI 1), x_workedOut)) : wpX_takeValue post (x_classCount, x_superCount, x_objectCount, x_draftSpecialCount, x_state, x_stepCount, x_latestValue, x_enterGeneric, x_enterPlace, nI (d + 1), nI (t + 1), x_valueCount, x_lineClass, x_lineLength, x_isSealed, x_classHasSlot, x_classSlot, x_superDraft, x_objectClass, x_objectHasSlot, x_objectSlot, x_parameterCount, x_methodGeneric, x_specialiser, x_tokenKind, x_tokenValue, x_tokenCount, x_argument, x_rank, x_orderPlace, x_frameMethod, x_framePlace, x_frameToken, x_frameOperators, x_frameArgument, x_operatorKind, x_operatorValue, x_operatorLeft, x_workedOut) := by
  unfold wpX_takeValue
  refine nm_r (nI_pred d) ⟨pk_in d 8 hd, ?_⟩
  rw [bs_clk (n := d) (by omega), eO]
  refine pk_eq (t + 1) fo (fun e => by omega) (fun _ => nm_r (nI_pred t) ⟨pk_in t 120 ht, pk_in t 120 ht, nm_r (e' := upd x_operatorLeft t (nI 1)) (by rw [bs_clk (by omega), eL, nI_pred]) ⟨pk_in t 120 ht, ?_⟩⟩)
  rw [bs_clk (n := t) (by omega), eK]
  refine br_t rfl ?_
  unfold wpX_goOnWithIf
  refine ⟨pk_in t 120 ht, ?_⟩
  rw [bs_clk (n := t) (by omega), pk_us]
  refine br_t rfl (br_f (by decide) (br_t rfl ⟨pk_in d 8 hd, pk_in d 8 hd, ?_⟩))
  rw [bs_clk (n := d) (by omega), eM, eT]
  exact mx_endOf (by omega) hpar hn en hk hs h ⟨pk_in d 8 hd, nm_e (nm_r (nI_pred t) hp)⟩
theorem mx_tk_if1 {post : SX → Prop} {d t fo : Nat} (hd : d < 8) (ht : t < 120) (hfo : fo ≤ t) (eO : x_frameOperators d = nI fo) {vc : Nat} {nc m n pc s : Nat} (hvc : vc < 120) (hm : m < 24) (hpar : rl_par x_parameterCount) (hn : n ≤ 16) (en : x_tokenCount m = nI n) (hk : ∀ i, i < n → rl_tk nc (x_tokenKind (16 * m + i)) (x_tokenValue (16 * m + i))) (eM : x_frameMethod d = nI m) (eT : x_frameToken d = nI pc) (hs : pc + s ≤ n) (h : rl_pn (rl_am x_parameterCount x_tokenKind x_tokenValue m) s pc 1) (eK : x_operatorKind t = nI 9) (eL : x_operatorLeft t = nI 3)
    (h0 : x_workedOut vc = 0 → post (x_classCount, x_superCount, x_objectCount, x_draftSpecialCount, -2, x_stepCount, x_latestValue, x_enterGeneric, x_enterPlace, nI (d + 1), nI t, nI vc, x_lineClass, x_lineLength, x_isSealed, x_classHasSlot, x_classSlot, x_superDraft, x_objectClass, x_objectHasSlot, x_objectSlot, x_parameterCount, x_methodGeneric, x_specialiser, x_tokenKind, x_tokenValue, x_tokenCount, x_argument, x_rank, x_orderPlace, x_frameMethod, x_framePlace, upd x_frameToken d (nI (pc + s)), x_frameOperators, x_frameArgument, x_operatorKind, x_operatorValue, upd x_operatorLeft t (nI 2), x_workedOut))
    (h1 : ¬ x_workedOut vc = 0 → post (x_classCount, x_superCount, x_objectCount, x_draftSpecialCount, -2, x_stepCount, x_latestValue, x_enterGeneric, x_enterPlace, nI (d + 1), nI (t + 1), nI vc, x_lineClass, x_lineLength, x_isSealed, x_classHasSlot, x_classSlot, x_superDraft, x_objectClass, x_objectHasSlot, x_objectSlot, x_parameterCount, x_methodGeneric, x_specialiser, x_tokenKind, x_tokenValue, x_tokenCount, x_argument, x_rank, x_orderPlace, x_frameMethod, x_framePlace, x_frameToken, x_frameOperators, x_frameArgument, x_operatorKind, x_operatorValue, upd x_operatorLeft t (nI 2), x_workedOut)) : wpX_takeValue post (x_classCount, x_superCount, x_objectCount, x_draftSpecialCount, x_state, x_stepCount, x_latestValue, x_enterGeneric, x_enterPlace, nI (d + 1), nI (t + 1), nI (vc + 1), x_lineClass, x_lineLength, x_isSealed, x_classHasSlot, x_classSlot, x_superDraft, x_objectClass, x_objectHasSlot, x_objectSlot, x_parameterCount, x_methodGeneric, x_specialiser, x_tokenKind, x_tokenValue, x_tokenCount, x_argument, x_rank, x_orderPlace, x_frameMethod, x_framePlace, x_frameToken, x_frameOperators, x_frameArgument, x_operatorKind, x_operatorValue, x_operatorLeft, x_workedOut) := by
  unfold wpX_takeValue
  refine nm_r (nI_pred d) ⟨pk_in d 8 hd, ?_⟩
  rw [bs_clk (n := d) (by omega), eO]
  refine pk_eq (t + 1) fo (fun e => by omega) (fun _ => nm_r (nI_pred t) ⟨pk_in t 120 ht, pk_in t 120 ht, nm_r (e' := upd x_operatorLeft t (nI 2)) (by rw [bs_clk (by omega), eL, nI_pred]) ⟨pk_in t 120 ht, ?_⟩⟩)
  rw [bs_clk (n := t) (by omega), eK]
  refine br_t rfl ?_
  unfold wpX_goOnWithIf
  refine ⟨pk_in t 120 ht, ?_⟩
  rw [bs_clk (n := t) (by omega), pk_us]
  refine br_f (by decide) (br_t rfl (nm_r (nI_pred vc) ⟨pk_in vc 120 hvc, ?_⟩))
  rw [bs_clk (n := vc) (by omega)]
  refine br_c (fun e => br_t rfl ⟨pk_in d 8 hd, pk_in d 8 hd, ?_⟩) (fun e => br_f (by decide) (h1 e))
  rw [bs_clk (n := d) (by omega), eM, eT]
  exact mx_endOf (by omega) hpar hn en hk hs h ⟨pk_in d 8 hd, nm_e (nm_r (nI_pred t) (h0 e))⟩
theorem mx_ap_call {post : SX → Prop} {g p b : Nat} (hg : g < 5) (hp3 : p ≤ 3) (hb : b + p ≤ 120) (ep : x_parameterCount g = nI p) (hp : ∀ ag : Nat → Int64, (∀ q, q < p → ag q = x_workedOut (b + q)) → post (x_classCount, x_superCount, x_objectCount, x_draftSpecialCount, -1, x_stepCount, x_latestValue, nI g, 0, x_frameCount, x_operatorCount, nI b, x_lineClass, x_lineLength, x_isSealed, x_classHasSlot, x_classSlot, x_superDraft, x_objectClass, x_objectHasSlot, x_objectSlot, x_parameterCount, x_methodGeneric, x_specialiser, x_tokenKind, x_tokenValue, x_tokenCount, ag, x_rank, x_orderPlace, x_frameMethod, x_framePlace, x_frameToken, x_frameOperators, x_frameArgument, x_operatorKind, x_operatorValue, x_operatorLeft, x_workedOut)) : wpX_apply post (x_classCount, x_superCount, x_objectCount, x_draftSpecialCount, x_state, x_stepCount, x_latestValue, x_enterGeneric, x_enterPlace, x_frameCount, x_operatorCount, nI (b + p), x_lineClass, x_lineLength, x_isSealed, x_classHasSlot, x_classSlot, x_superDraft, x_objectClass, x_objectHasSlot, x_objectSlot, x_parameterCount, x_methodGeneric, x_specialiser, x_tokenKind, x_tokenValue, x_tokenCount, x_argument, x_rank, x_orderPlace, x_frameMethod, x_framePlace, x_frameToken, x_frameOperators, x_frameArgument, x_operatorKind, x_operatorValue, x_operatorLeft, x_workedOut) (nI 3) (nI g) := by
  unfold wpX_apply
  refine br_f (by decide) (br_f (by decide) (br_t rfl ?_))
  unfold wpX_applyCall
  refine ⟨pk_in g 5 hg, nm_r (e' := nI b) (by rw [bs_clk (by omega), ep, pk_sub (by omega), Nat.add_sub_cancel]) ?_⟩
  refine loop_0 (σ := Nat → Int64) (fun n i s => wX_applyCall_17 _ (nI g) x_classCount x_superCount x_objectCount x_draftSpecialCount x_state x_stepCount x_latestValue x_enterGeneric x_enterPlace x_frameCount x_operatorCount (nI b) n (nI i) x_lineClass x_lineLength x_isSealed x_classHasSlot x_classSlot x_superDraft x_objectClass x_objectHasSlot x_objectSlot x_parameterCount x_methodGeneric x_specialiser x_tokenKind x_tokenValue x_tokenCount s x_rank x_orderPlace x_frameMethod x_framePlace x_frameToken x_frameOperators x_frameArgument x_operatorKind x_operatorValue x_operatorLeft x_workedOut) (fun i s => ∀ q, q < i → s q = x_workedOut (b + q)) p x_argument lt_0 ?_ ?_
  · intro n s hI
    refine ⟨pk_in g 5 hg, ?_⟩
    rw [bs_clk (n := g) (by omega), ep]
    exact br_t (nI_le (Nat.le_refl _) (by omega)) (hp s hI)
  · intro n i s hi hI k
    refine ⟨pk_in g 5 hg, ?_⟩
    rw [bs_clk (n := g) (by omega), ep]
    refine br_f (nI_ge hi (by omega)) ⟨pk_in (b + i) 120 (by omega) (nI_add b i), pk_in i 3 (by omega), nm_r (e' := vp_updL s i (x_workedOut (b + i))) (by rw [nI_add, bs_clk (by omega), bs_clk (by omega)]) (nm_r (nI_1 i) (k _ (fun q hq => ?_)))⟩
    by_cases e : q = i
    · rw [e, pk_uLs]
    · rw [pk_uLn e]; exact hI q (by omega)
theorem mx_slotCell {post : Int32 → Prop} {no n : Nat} {v : Int64} (hno : no ≤ 20) (hn : n < 4) (h0 : (¬ ∃ k, k < no ∧ v = lN (4294967296 + k) ∧ ¬ x_objectHasSlot (4 * k + n) = 0) → post (-1)) (h1 : ∀ k, k < no → v = lN (4294967296 + k) → ¬ x_objectHasSlot (4 * k + n) = 0 → post (nI (4 * k + n))) : wpX_slotCell post (x_classCount, x_superCount, nI no, x_draftSpecialCount, x_state, x_stepCount, x_latestValue, x_enterGeneric, x_enterPlace, x_frameCount, x_operatorCount, x_valueCount, x_lineClass, x_lineLength, x_isSealed, x_classHasSlot, x_classSlot, x_superDraft, x_objectClass, x_objectHasSlot, x_objectSlot, x_parameterCount, x_methodGeneric, x_specialiser, x_tokenKind, x_tokenValue, x_tokenCount, x_argument, x_rank, x_orderPlace, x_frameMethod, x_framePlace, x_frameToken, x_frameOperators, x_frameArgument, x_operatorKind, x_operatorValue, x_operatorLeft, x_workedOut) v (nI n) := by
  unfold wpX_slotCell
  by_cases ho : ∃ k, k < no ∧ v = lN (4294967296 + k)
  · obtain ⟨k, hk, rfl⟩ := ho
    refine mx_isObject_t hno hk (br_f (by decide) (nm_r (e' := nI (4 * k + n)) (by rw [ob_ix (by omega), bs_xi 4 k n]) ⟨pk_in (4 * k + n) 80 (by omega), ?_⟩))
    rw [bs_clk (n := 4 * k + n) (by omega)]
    refine br_c (fun e => h0 ?_) (fun e => h1 k hk rfl e)
    rintro ⟨q, hq, e2, e3⟩
    have := ob_inj (by omega) (by omega) e2
    subst this
    exact e3 e
  · exact mx_isObject_f hno ho (br_t rfl (h0 (fun ⟨k, hk, e, _⟩ => ho ⟨k, hk, e⟩)))
theorem mx_ap_get {post : SX → Prop} {no n vc : Nat} (hno : no ≤ 20) (hn : n < 4) (hvc : vc < 120) (h0 : (¬ ∃ k, k < no ∧ x_workedOut vc = lN (4294967296 + k) ∧ ¬ x_objectHasSlot (4 * k + n) = 0) → post (x_classCount, x_superCount, nI no, x_draftSpecialCount, 4, x_stepCount, x_latestValue, x_enterGeneric, x_enterPlace, x_frameCount, x_operatorCount, nI vc, x_lineClass, x_lineLength, x_isSealed, x_classHasSlot, x_classSlot, x_superDraft, x_objectClass, x_objectHasSlot, x_objectSlot, x_parameterCount, x_methodGeneric, x_specialiser, x_tokenKind, x_tokenValue, x_tokenCount, x_argument, x_rank, x_orderPlace, x_frameMethod, x_framePlace, x_frameToken, x_frameOperators, x_frameArgument, x_operatorKind, x_operatorValue, x_operatorLeft, x_workedOut)) (h1 : ∀ k, k < no → x_workedOut vc = lN (4294967296 + k) → ¬ x_objectHasSlot (4 * k + n) = 0 → post (x_classCount, x_superCount, nI no, x_draftSpecialCount, -3, x_stepCount, x_latestValue, x_enterGeneric, x_enterPlace, x_frameCount, x_operatorCount, nI (vc + 1), x_lineClass, x_lineLength, x_isSealed, x_classHasSlot, x_classSlot, x_superDraft, x_objectClass, x_objectHasSlot, x_objectSlot, x_parameterCount, x_methodGeneric, x_specialiser, x_tokenKind, x_tokenValue, x_tokenCount, x_argument, x_rank, x_orderPlace, x_frameMethod, x_framePlace, x_frameToken, x_frameOperators, x_frameArgument, x_operatorKind, x_operatorValue, x_operatorLeft, vp_updL x_workedOut vc (x_objectSlot (4 * k + n)))) : wpX_apply post (x_classCount, x_superCount, nI no, x_draftSpecialCount, x_state, x_stepCount, x_latestValue, x_enterGeneric, x_enterPlace, x_frameCount, x_operatorCount, nI (vc + 1), x_lineClass, x_lineLength, x_isSealed, x_classHasSlot, x_classSlot, x_superDraft, x_objectClass, x_objectHasSlot, x_objectSlot, x_parameterCount, x_methodGeneric, x_specialiser, x_tokenKind, x_tokenValue, x_tokenCount, x_argument, x_rank, x_orderPlace, x_frameMethod, x_framePlace, x_frameToken, x_frameOperators, x_frameArgument, x_operatorKind, x_operatorValue, x_operatorLeft, x_workedOut) (nI 4) (nI n) := by
  unfold wpX_apply
  refine br_f (by decide) (br_f (by decide) (br_f (by decide) (br_t rfl ?_)))
  unfold wpX_applyGet
  refine nm_r (nI_pred vc) ⟨pk_in vc 120 hvc, ?_⟩
  rw [bs_clk (n := vc) (by omega)]
  refine mx_slotCell hno hn (fun h => br_t rfl (h0 h)) (fun k hk e e2 => br_f (bs_n1 (by omega)) ⟨pk_in (4 * k + n) 80 (by omega), ?_⟩)
  rw [bs_clk (n := 4 * k + n) (by omega)]
  exact mx_pushValue hvc (h1 k hk e e2)
theorem bs_m2 (n : Nat) : nI (n + 2) - 2 = nI n := by
  rw [show (2 : Int32) = nI 2 from rfl, pk_sub (by omega), Nat.add_sub_cancel]
theorem mx_ap_set {post : SX → Prop} {no n b : Nat} (hno : no ≤ 20) (hn : n < 4) (hb : b + 1 < 120) (h0 : (¬ ∃ k, k < no ∧ x_workedOut b = lN (4294967296 + k) ∧ ¬ x_objectHasSlot (4 * k + n) = 0) → post (x_classCount, x_superCount, nI no, x_draftSpecialCount, 4, x_stepCount, x_latestValue, x_enterGeneric, x_enterPlace, x_frameCount, x_operatorCount, nI b, x_lineClass, x_lineLength, x_isSealed, x_classHasSlot, x_classSlot, x_superDraft, x_objectClass, x_objectHasSlot, x_objectSlot, x_parameterCount, x_methodGeneric, x_specialiser, x_tokenKind, x_tokenValue, x_tokenCount, x_argument, x_rank, x_orderPlace, x_frameMethod, x_framePlace, x_frameToken, x_frameOperators, x_frameArgument, x_operatorKind, x_operatorValue, x_operatorLeft, x_workedOut)) (h1 : ∀ k, k < no → x_workedOut b = lN (4294967296 + k) → ¬ x_objectHasSlot (4 * k + n) = 0 → post (x_classCount, x_superCount, nI no, x_draftSpecialCount, -3, x_stepCount, x_latestValue, x_enterGeneric, x_enterPlace, x_frameCount, x_operatorCount, nI (b + 1), x_lineClass, x_lineLength, x_isSealed, x_classHasSlot, x_classSlot, x_superDraft, x_objectClass, x_objectHasSlot, vp_updL x_objectSlot (4 * k + n) (x_workedOut (b + 1)), x_parameterCount, x_methodGeneric, x_specialiser, x_tokenKind, x_tokenValue, x_tokenCount, x_argument, x_rank, x_orderPlace, x_frameMethod, x_framePlace, x_frameToken, x_frameOperators, x_frameArgument, x_operatorKind, x_operatorValue, x_operatorLeft, vp_updL x_workedOut b (x_workedOut (b + 1)))) : wpX_apply post (x_classCount, x_superCount, nI no, x_draftSpecialCount, x_state, x_stepCount, x_latestValue, x_enterGeneric, x_enterPlace, x_frameCount, x_operatorCount, nI (b + 2), x_lineClass, x_lineLength, x_isSealed, x_classHasSlot, x_classSlot, x_superDraft, x_objectClass, x_objectHasSlot, x_objectSlot, x_parameterCount, x_methodGeneric, x_specialiser, x_tokenKind, x_tokenValue, x_tokenCount, x_argument, x_rank, x_orderPlace, x_frameMethod, x_framePlace, x_frameToken, x_frameOperators, x_frameArgument, x_operatorKind, x_operatorValue, x_operatorLeft, x_workedOut) (nI 5) (nI n) := by
  unfold wpX_apply
  refine br_f (by decide) (br_f (by decide) (br_f (by decide) (br_f (by decide) (br_t rfl ?_))))
  unfold wpX_applySet
  refine nm_r (bs_m2 b) ⟨pk_in b 120 (by omega), ?_⟩
  rw [bs_clk (n := b) (by omega)]
  refine mx_slotCell hno hn (fun h => br_t rfl (h0 h)) (fun k hk e e2 => br_f (bs_n1 (by omega)) ⟨pk_in (b + 1) 120 (by omega) (nI_1 b), pk_in (4 * k + n) 80 (by omega), nm_r (e' := vp_updL x_objectSlot (4 * k + n) (x_workedOut (b + 1))) (by rw [nI_1, bs_clk (n := 4 * k + n) (by omega), bs_clk (n := b + 1) (by omega)]) ⟨pk_in (4 * k + n) 80 (by omega), ?_⟩⟩)
  rw [bs_clk (n := 4 * k + n) (by omega), pk_uLs]
  exact mx_pushValue (by omega) (h1 k hk e e2)
theorem mx_ap_is {post : SX → Prop} {nc no vc : Nat} {s : Int32} (hcls : rl_cls nc x_lineClass x_lineLength) (hno : no ≤ 20) (hoc : ∀ k, k < no → ∃ c, c < nc ∧ x_objectClass k = nI c) (hv : rl_val no (x_workedOut vc)) (hvc : vc < 120) (hp : post (x_classCount, x_superCount, nI no, x_draftSpecialCount, -3, x_stepCount, x_latestValue, x_enterGeneric, x_enterPlace, x_frameCount, x_operatorCount, nI (vc + 1), x_lineClass, x_lineLength, x_isSealed, x_classHasSlot, x_classSlot, x_superDraft, x_objectClass, x_objectHasSlot, x_objectSlot, x_parameterCount, x_methodGeneric, x_specialiser, x_tokenKind, x_tokenValue, x_tokenCount, x_argument, x_rank, x_orderPlace, x_frameMethod, x_framePlace, x_frameToken, x_frameOperators, x_frameArgument, x_operatorKind, x_operatorValue, x_operatorLeft, vp_updL x_workedOut vc (bs_ci (or_pl x_lineClass x_lineLength (ob_kc x_objectClass no (x_workedOut vc)).toNatClampNeg s = -1) 0 1))) : wpX_apply post (x_classCount, x_superCount, nI no, x_draftSpecialCount, x_state, x_stepCount, x_latestValue, x_enterGeneric, x_enterPlace, x_frameCount, x_operatorCount, nI (vc + 1), x_lineClass, x_lineLength, x_isSealed, x_classHasSlot, x_classSlot, x_superDraft, x_objectClass, x_objectHasSlot, x_objectSlot, x_parameterCount, x_methodGeneric, x_specialiser, x_tokenKind, x_tokenValue, x_tokenCount, x_argument, x_rank, x_orderPlace, x_frameMethod, x_framePlace, x_frameToken, x_frameOperators, x_frameArgument, x_operatorKind, x_operatorValue, x_operatorLeft, x_workedOut) (nI 11) s := by
  have h16 := hcls.2.1
  unfold wpX_apply
  refine br_f (by decide) (br_f (by decide) (br_f (by decide) (br_f (by decide) (br_f (by decide) (br_f (by decide) (br_f (by decide) (br_f (by decide) (br_f (by decide) (br_f (by decide) (br_t rfl ?_))))))))))
  unfold wpX_applyIs
  refine nm_r (nI_pred vc) ⟨pk_in vc 120 hvc, ?_⟩
  rw [bs_clk (n := vc) (by omega)]
  refine mx_classOf hno ?_
  obtain ⟨c, hc, _, ek⟩ := or_cv_v hcls.1 hno hoc hv
  obtain ⟨l, hl, el, _⟩ := hcls.2.2 c hc
  rw [ek, bs_clk (by omega)] at hp
  rw [ek]
  refine mx_placeInLine (by omega) hl el (br_c (fun e => ?_) (fun e => ?_))
  · rw [bs_ct e] at hp
    exact mx_pushValue hvc hp
  · rw [bs_cf e] at hp
    exact mx_pushValue hvc hp
/-- what ADD, SUB, LESS give -/
noncomputable def cm_int (q : Nat) (a b : Int32) : Int64 := bs_ci (q = 6) (a + b).toInt64 (bs_ci (q = 7) (a - b).toInt64 (bs_ci (b ≤ a) 0 1))
theorem mx_ap_int {post : SX → Prop} {q b : Nat} {w : Int32} (hq6 : 6 ≤ q) (hq8 : q ≤ 8) (hb : b + 1 < 120) (h0 : ¬ (rl_int (x_workedOut b) ∧ rl_int (x_workedOut (b + 1))) → post (x_classCount, x_superCount, x_objectCount, x_draftSpecialCount, 5, x_stepCount, x_latestValue, x_enterGeneric, x_enterPlace, x_frameCount, x_operatorCount, nI b, x_lineClass, x_lineLength, x_isSealed, x_classHasSlot, x_classSlot, x_superDraft, x_objectClass, x_objectHasSlot, x_objectSlot, x_parameterCount, x_methodGeneric, x_specialiser, x_tokenKind, x_tokenValue, x_tokenCount, x_argument, x_rank, x_orderPlace, x_frameMethod, x_framePlace, x_frameToken, x_frameOperators, x_frameArgument, x_operatorKind, x_operatorValue, x_operatorLeft, x_workedOut)) (h1 : rl_int (x_workedOut b) → rl_int (x_workedOut (b + 1)) → post (x_classCount, x_superCount, x_objectCount, x_draftSpecialCount, -3, x_stepCount, x_latestValue, x_enterGeneric, x_enterPlace, x_frameCount, x_operatorCount, nI (b + 1), x_lineClass, x_lineLength, x_isSealed, x_classHasSlot, x_classSlot, x_superDraft, x_objectClass, x_objectHasSlot, x_objectSlot, x_parameterCount, x_methodGeneric, x_specialiser, x_tokenKind, x_tokenValue, x_tokenCount, x_argument, x_rank, x_orderPlace, x_frameMethod, x_framePlace, x_frameToken, x_frameOperators, x_frameArgument, x_operatorKind, x_operatorValue, x_operatorLeft, vp_updL x_workedOut b (cm_int q (x_workedOut b).toInt32 (x_workedOut (b + 1)).toInt32))) : wpX_apply post (x_classCount, x_superCount, x_objectCount, x_draftSpecialCount, x_state, x_stepCount, x_latestValue, x_enterGeneric, x_enterPlace, x_frameCount, x_operatorCount, nI (b + 2), x_lineClass, x_lineLength, x_isSealed, x_classHasSlot, x_classSlot, x_superDraft, x_objectClass, x_objectHasSlot, x_objectSlot, x_parameterCount, x_methodGeneric, x_specialiser, x_tokenKind, x_tokenValue, x_tokenCount, x_argument, x_rank, x_orderPlace, x_frameMethod, x_framePlace, x_frameToken, x_frameOperators, x_frameArgument, x_operatorKind, x_operatorValue, x_operatorLeft, x_workedOut) (nI q) w := by
  have key : wpX_applyToInts post (x_classCount, x_superCount, x_objectCount, x_draftSpecialCount, x_state, x_stepCount, x_latestValue, x_enterGeneric, x_enterPlace, x_frameCount, x_operatorCount, nI (b + 2), x_lineClass, x_lineLength, x_isSealed, x_classHasSlot, x_classSlot, x_superDraft, x_objectClass, x_objectHasSlot, x_objectSlot, x_parameterCount, x_methodGeneric, x_specialiser, x_tokenKind, x_tokenValue, x_tokenCount, x_argument, x_rank, x_orderPlace, x_frameMethod, x_framePlace, x_frameToken, x_frameOperators, x_frameArgument, x_operatorKind, x_operatorValue, x_operatorLeft, x_workedOut) (nI q) := by
    unfold wpX_applyToInts
    refine nm_r (bs_m2 b) ⟨pk_in b 120 (by omega), ?_⟩
    rw [bs_clk (n := b) (by omega), nI_1 b, bs_clk (n := b + 1) (by omega)]
    by_cases i1 : rl_int (x_workedOut b)
    · refine mx_isInt_t i1 (br_f (by decide) ⟨pk_in (b + 1) 120 (by omega), ?_⟩)
      by_cases i2 : rl_int (x_workedOut (b + 1))
      · have h1' := h1 i1 i2
        unfold cm_int at h1'
        refine mx_isInt_t i2 (br_f (by decide) ⟨pk_in b 120 (by omega), nm_e ⟨pk_in (b + 1) 120 (by omega), nm_e (pk_eq q 6 (fun e => ?_) (fun e => pk_eq q 7 (fun e2 => ?_) (fun e2 => br_c (fun e3 => ?_) (fun e3 => ?_))))⟩⟩)
        · rw [bs_ct e] at h1'
          exact mx_pushValue (by omega) h1'
        · rw [bs_cf e, bs_ct e2] at h1'
          exact mx_pushValue (by omega) h1'
        · rw [bs_cf e, bs_cf e2, bs_ct e3] at h1'
          exact mx_pushValue (by omega) h1'
        · rw [bs_cf e, bs_cf e2, bs_cf e3] at h1'
          exact mx_pushValue (by omega) h1'
      · exact mx_isInt_f i2 (br_t rfl (h0 (fun z => i2 z.2)))
    · exact mx_isInt_f i1 (br_t rfl (h0 (fun z => i1 z.1)))
  unfold wpX_apply
  exact pk_lt q 3 (fun e => by omega) (fun _ => pk_lt 11 q (fun e => by omega) (fun _ => pk_eq q 3 (fun e => by omega) (fun _ => pk_eq q 4 (fun e => by omega) (fun _ => pk_eq q 5 (fun e => by omega) (fun _ => pk_eq q 6 (fun e => key) (fun _ => pk_eq q 7 (fun e => key) (fun _ => pk_eq q 8 (fun e => key) (fun e => by omega))))))))
end
end
section
/-! Y's walks of a call at work -/
theorem cm_eta {Q1 Q : SY → Prop} (h : ∀ u, Q1 u = Q u) {C : (SY → Prop) → Prop} (hc : C Q) : C Q1 := by
  rw [funext h]; exact hc
section
variable {y_classes : Int32} {y_supers : Int32} {y_objects : Int32} {y_specials : Int32} {y_depth : Int32} {y_ops : Int32} {y_held : Int32} {y_fault : Int32} {y_steps : Int32} {y_shownSteps : Int32} {y_result : Int64} {y_line : Nat → Int32} {y_lineLength : Nat → Int32} {y_has : Nat → Int32} {y_sealed : Nat → Int32} {y_initial : Nat → Int32} {y_drafted : Nat → Int32} {y_draftHas : Nat → Int32} {y_draftInitial : Nat → Int32} {y_lists : Nat → Int32} {y_listLength : Nat → Int32} {y_gone : Nat → Int32} {y_classOfObject : Nat → Int32} {y_slots : Nat → Int64} {y_parameters : Nat → Int32} {y_generic : Nat → Int32} {y_single : Nat → Int32} {y_special : Nat → Int64} {y_kind : Nat → Int32} {y_tokens : Nat → Int32} {y_with : Nat → Int32} {y_methodAt : Nat → Int32} {y_pc : Nat → Int32} {y_chosen : Nat → Int32} {y_many : Nat → Int32} {y_reached : Nat → Int32} {y_opsAt : Nat → Int32} {y_broken : Nat → Int32} {y_arguments : Nat → Int64} {y_operands : Nat → Int64} {y_operator : Nat → Int32} {y_got : Nat → Int32}
theorem my_begin {post : SY → Prop} {d pl x oc : Nat} (hd : d < 8) (hpl : pl < 24) (hx : x < 24) (hoc : oc < 128) (ec : y_chosen (24 * d + pl) = nI x) (hp : post (y_classes, y_supers, y_objects, y_specials, nI (d + 1), nI oc, y_held, y_fault, y_steps, y_shownSteps, y_result, y_line, y_lineLength, y_has, y_sealed, y_initial, y_drafted, y_draftHas, y_draftInitial, y_lists, y_listLength, y_gone, y_classOfObject, y_slots, y_parameters, y_generic, y_single, y_special, y_kind, y_tokens, y_with, upd y_methodAt d (nI x), upd y_pc d 0, y_chosen, y_many, upd y_reached d (nI pl), upd y_opsAt d (nI oc), y_broken, y_arguments, y_operands, y_operator, y_got)) : wpY_begin post (y_classes, y_supers, y_objects, y_specials, nI d, nI oc, y_held, y_fault, y_steps, y_shownSteps, y_result, y_line, y_lineLength, y_has, y_sealed, y_initial, y_drafted, y_draftHas, y_draftInitial, y_lists, y_listLength, y_gone, y_classOfObject, y_slots, y_parameters, y_generic, y_single, y_special, y_kind, y_tokens, y_with, y_methodAt, y_pc, y_chosen, y_many, y_reached, y_opsAt, y_broken, y_arguments, y_operands, y_operator, y_got) (nI pl) := by
  unfold wpY_begin
  exact ⟨pk_in d 8 hd, nm_r (e' := upd y_reached d (nI pl)) (by rw [bs_clk (by omega), bs_vb8 (by omega)]) ⟨pk_in (24 * d + pl) 192 (by omega) (bs_ix 24 d pl), pk_in d 8 hd, nm_r (e' := upd y_methodAt d (nI x)) (by rw [bs_ix 24 d pl, bs_clk (n := d) (by omega), bs_clk (n := 24 * d + pl) (by omega), ec, bs_vb (by omega)]) ⟨pk_in d 8 hd, nm_r (e' := upd y_pc d 0) (by rw [bs_clk (by omega), bs_v0]) ⟨pk_in d 8 hd, nm_r (e' := upd y_opsAt d (nI oc)) (by rw [bs_clk (by omega), bs_vb8 (by omega)]) (nm_r (nI_1 d) hp)⟩⟩⟩⟩
theorem my_enter {post : SY → Prop} {nc no g p d oc : Nat} {SP ar : Nat → Int64} {R : Nat → Nat → Int32} {L : Int32} (eR : R = or_R y_line y_lineLength y_classOfObject SP ar p) (eL : L = or_L y_generic R g p) (hW : or_W nc no g p y_line y_lineLength y_classOfObject y_parameters ar) (hd : d ≤ 8) (hoc : oc < 128) (ha : ∀ k, k < p → y_arguments (3 * d + k) = ar k) (hs : ∀ m, m < 24 → y_generic m = nI g → ∀ k, k < p → rl_sp nc no (SP (3 * m + k)) (y_single (3 * m + k)) (y_special (3 * m + k)))
    (h2 : or_mn R p L = 0 → ¬ L = 0 → ∀ ch mn bk, post (y_classes, y_supers, nI no, y_specials, nI d, nI oc, y_held, 2, y_steps, y_shownSteps, y_result, y_line, y_lineLength, y_has, y_sealed, y_initial, y_drafted, y_draftHas, y_draftInitial, y_lists, y_listLength, y_gone, y_classOfObject, y_slots, y_parameters, y_generic, y_single, y_special, y_kind, y_tokens, y_with, y_methodAt, y_pc, ch, mn, y_reached, y_opsAt, bk, y_arguments, y_operands, y_operator, y_got))
    (h1 : or_mn R p L = 0 → L = 0 → ∀ ch mn bk, post (y_classes, y_supers, nI no, y_specials, nI d, nI oc, y_held, 1, y_steps, y_shownSteps, y_result, y_line, y_lineLength, y_has, y_sealed, y_initial, y_drafted, y_draftHas, y_draftInitial, y_lists, y_listLength, y_gone, y_classOfObject, y_slots, y_parameters, y_generic, y_single, y_special, y_kind, y_tokens, y_with, y_methodAt, y_pc, ch, mn, y_reached, y_opsAt, bk, y_arguments, y_operands, y_operator, y_got))
    (h6 : 0 < or_mn R p L → d = 8 → ∀ ch mn bk, post (y_classes, y_supers, nI no, y_specials, nI d, nI oc, y_held, 6, y_steps, y_shownSteps, y_result, y_line, y_lineLength, y_has, y_sealed, y_initial, y_drafted, y_draftHas, y_draftInitial, y_lists, y_listLength, y_gone, y_classOfObject, y_slots, y_parameters, y_generic, y_single, y_special, y_kind, y_tokens, y_with, y_methodAt, y_pc, ch, mn, y_reached, y_opsAt, bk, y_arguments, y_operands, y_operator, y_got))
    (hp : 0 < or_mn R p L → d < 8 → ∀ ch mn bk, or_S R p L d y_chosen y_many y_broken ch mn bk → post (y_classes, y_supers, nI no, y_specials, nI (d + 1), nI oc, y_held, y_fault, y_steps, y_shownSteps, y_result, y_line, y_lineLength, y_has, y_sealed, y_initial, y_drafted, y_draftHas, y_draftInitial, y_lists, y_listLength, y_gone, y_classOfObject, y_slots, y_parameters, y_generic, y_single, y_special, y_kind, y_tokens, y_with, upd y_methodAt d (nI (or_ld R p L)), upd y_pc d 0, ch, mn, upd y_reached d 0, upd y_opsAt d (nI oc), bk, y_arguments, y_operands, y_operator, y_got)) : wpY_enter post (y_classes, y_supers, nI no, y_specials, nI d, nI oc, y_held, y_fault, y_steps, y_shownSteps, y_result, y_line, y_lineLength, y_has, y_sealed, y_initial, y_drafted, y_draftHas, y_draftInitial, y_lists, y_listLength, y_gone, y_classOfObject, y_slots, y_parameters, y_generic, y_single, y_special, y_kind, y_tokens, y_with, y_methodAt, y_pc, y_chosen, y_many, y_reached, y_opsAt, y_broken, y_arguments, y_operands, y_operator, y_got) (nI g) := by
  have hp3 := hW.2.2.2.2.2.1
  have hle := or_mn_le R p L
  unfold wpY_enter
  refine pk_eq d 8 (fun e => ?_) (fun e => ?_)
  · subst e
    have hz : ¬ or_ld R p L < 24 → or_mn R p L = 0 := by
      intro h
      by_cases z : 0 < or_mn R p L
      · exact absurd (or_mn_lt z) h
      · omega
    refine my_sortAside (SP := SP) (R := R) eR hW ha hs (fun z => ?_) (fun z hl => ?_) (fun z hl => ?_)
    · rw [← eL] at z
      refine h1 (hz (fun hl => ?_)) z _ _ _
      have hg := bs_fi_p (p := or_good R p L) hl
      have h9 := hg.1
      rw [z] at h9 hl
      exact or_bit0 (m := or_ld R p 0) (by omega) h9
    · rw [← eL] at z hl
      refine h6 ?_ rfl _ _ _
      by_cases c : or_mn R p L = 0
      · have := or_mn_no (R := R) (p := p) (L := L)
        rw [c] at this
        exact absurd hl this
      · omega
    · rw [← eL] at z hl
      exact h2 (hz hl) z _ _ _
  · refine my_sort (SP := SP) (R := R) eR hW (by omega) ha hs (fun ch mn bk hS => ⟨pk_in d 8 (by omega), ?_⟩)
    rw [← eL] at hS
    have hS2 := hS
    obtain ⟨s1, s2, s3, _, _⟩ := hS2
    rw [bs_clk (n := d) (by omega), s1]
    refine pk_eq (or_mn R p L) 0 (fun z => ⟨pk_in d 8 (by omega), ?_⟩) (fun z => ?_)
    · rw [s2, z]
      have e0 : or_sq R p L 0 = L := rfl
      rw [e0]
      by_cases zl : L = 0
      · rw [bs_ct zl]; exact br_t rfl (h1 z zl ch mn bk)
      · rw [bs_cf zl]; exact br_f (by decide) (h2 z zl ch mn bk)
    · have h0 := s3 0 (by omega)
      have hl := or_mn_lt (R := R) (p := p) (L := L) (q := 0) (by omega)
      exact my_begin (pl := 0) (by omega) (by omega) hl hoc h0 (hp (by omega) (by omega) ch mn bk hS)
theorem my_next {post : SY → Prop} {d pl mnN oc : Nat} (hd : d < 8) (hpl : pl < 24) (hmn : mnN ≤ 24) (hoc : oc < 128) (eR : y_reached d = nI pl) (eN : y_many d = nI mnN) (eB : y_broken d = 0 ∨ y_broken d = 1) (eC : ∀ j, j < mnN → ∃ x, x < 24 ∧ y_chosen (24 * d + j) = nI x)
    (h3 : mnN ≤ pl + 1 → y_broken d = 0 → post (y_classes, y_supers, y_objects, y_specials, nI (d + 1), nI oc, y_held, 3, y_steps, y_shownSteps, y_result, y_line, y_lineLength, y_has, y_sealed, y_initial, y_drafted, y_draftHas, y_draftInitial, y_lists, y_listLength, y_gone, y_classOfObject, y_slots, y_parameters, y_generic, y_single, y_special, y_kind, y_tokens, y_with, y_methodAt, y_pc, y_chosen, y_many, y_reached, y_opsAt, y_broken, y_arguments, y_operands, y_operator, y_got)) (h2 : mnN ≤ pl + 1 → ¬ y_broken d = 0 → post (y_classes, y_supers, y_objects, y_specials, nI (d + 1), nI oc, y_held, 2, y_steps, y_shownSteps, y_result, y_line, y_lineLength, y_has, y_sealed, y_initial, y_drafted, y_draftHas, y_draftInitial, y_lists, y_listLength, y_gone, y_classOfObject, y_slots, y_parameters, y_generic, y_single, y_special, y_kind, y_tokens, y_with, y_methodAt, y_pc, y_chosen, y_many, y_reached, y_opsAt, y_broken, y_arguments, y_operands, y_operator, y_got)) (h6 : pl + 1 < mnN → d = 7 → post (y_classes, y_supers, y_objects, y_specials, nI (d + 1), nI oc, y_held, 6, y_steps, y_shownSteps, y_result, y_line, y_lineLength, y_has, y_sealed, y_initial, y_drafted, y_draftHas, y_draftInitial, y_lists, y_listLength, y_gone, y_classOfObject, y_slots, y_parameters, y_generic, y_single, y_special, y_kind, y_tokens, y_with, y_methodAt, y_pc, y_chosen, y_many, y_reached, y_opsAt, y_broken, y_arguments, y_operands, y_operator, y_got))
    (hp : pl + 1 < mnN → d < 7 → ∀ ch : Nat → Int32, (∀ j, j < mnN → ch (24 * (d + 1) + j) = y_chosen (24 * d + j)) → (∀ j, j < 24 * (d + 1) → ch j = y_chosen j) → ∀ x, x < 24 → y_chosen (24 * d + (pl + 1)) = nI x → post (y_classes, y_supers, y_objects, y_specials, nI (d + 2), nI oc, y_held, y_fault, y_steps, y_shownSteps, y_result, y_line, y_lineLength, y_has, y_sealed, y_initial, y_drafted, y_draftHas, y_draftInitial, y_lists, y_listLength, y_gone, y_classOfObject, y_slots, y_parameters, y_generic, y_single, y_special, y_kind, y_tokens, y_with, upd y_methodAt (d + 1) (nI x), upd y_pc (d + 1) 0, ch, upd y_many (d + 1) (nI mnN), upd y_reached (d + 1) (nI (pl + 1)), upd y_opsAt (d + 1) (nI oc), upd y_broken (d + 1) (y_broken d), ca_ag y_arguments (3 * (d + 1)) (y_arguments (3 * d)) (y_arguments (3 * d + 1)) (y_arguments (3 * d + 2)), y_operands, y_operator, y_got)) : wpY_next post (y_classes, y_supers, y_objects, y_specials, nI (d + 1), nI oc, y_held, y_fault, y_steps, y_shownSteps, y_result, y_line, y_lineLength, y_has, y_sealed, y_initial, y_drafted, y_draftHas, y_draftInitial, y_lists, y_listLength, y_gone, y_classOfObject, y_slots, y_parameters, y_generic, y_single, y_special, y_kind, y_tokens, y_with, y_methodAt, y_pc, y_chosen, y_many, y_reached, y_opsAt, y_broken, y_arguments, y_operands, y_operator, y_got) := by
  unfold wpY_next
  refine nm_r (nI_pred d) ⟨pk_in d 8 hd, nm_r (e' := nI (pl + 1)) (by rw [bs_clk (by omega), eR, nI_1]) ⟨pk_in d 8 hd, ?_⟩⟩
  rw [bs_clk (n := d) (by omega), eN]
  refine pk_lt (pl + 1) mnN (fun h => pk_eq (d + 1) 8 (fun e => h6 h (by omega)) (fun e => ?_)) (fun h => ⟨pk_in d 8 hd, br_c (fun z => h3 h z) (fun z => h2 h z)⟩)
  obtain ⟨x, hx, ex⟩ := eC (pl + 1) h
  refine loop_0 (σ := Nat → Int32) (fun n i s => wY_next_63 post (nI d) (nI (pl + 1)) y_classes y_supers y_objects y_specials (nI (d + 1)) (nI oc) y_held y_fault y_steps y_shownSteps y_result n (nI i) y_line y_lineLength y_has y_sealed y_initial y_drafted y_draftHas y_draftInitial y_lists y_listLength y_gone y_classOfObject y_slots y_parameters y_generic y_single y_special y_kind y_tokens y_with y_methodAt y_pc s y_many y_reached y_opsAt y_broken y_arguments y_operands y_operator y_got) (fun i s => (∀ j, j < i → j < mnN → s (24 * (d + 1) + j) = y_chosen (24 * d + j)) ∧ ∀ j, j < 24 * (d + 1) → s j = y_chosen j) 24 y_chosen ⟨lt_0, fun _ _ => rfl⟩ ?_ ?_
  · intro n s hI
    have e1 : (3 : Int32) * nI d + 1 = nI (3 * d + 1) := by rw [bs_ml 3 d, nI_1]
    have e2 : (3 : Int32) * nI d + 2 = nI (3 * d + 2) := by rw [bs_ml 3 d, show (2 : Int32) = nI 2 from rfl, nI_add]
    refine br_t (nI_le (Nat.le_refl _) (by omega)) ⟨pk_in d 8 hd, pk_in (d + 1) 8 (by omega), nm_r (e' := upd y_many (d + 1) (nI mnN)) (by rw [bs_clk (n := d) (by omega), bs_clk (n := d + 1) (by omega), eN, bs_vb (by omega)]) ⟨pk_in d 8 hd, pk_in (d + 1) 8 (by omega), nm_r (e' := upd y_broken (d + 1) (y_broken d)) (by rw [bs_clk (n := d) (by omega), bs_clk (n := d + 1) (by omega), bs_z eB]) ⟨pk_in (3 * d) 27 (by omega) (bs_ml 3 d), pk_in (3 * d + 1) 27 (by omega) e1, pk_in (3 * d + 2) 27 (by omega) e2, ?_⟩⟩⟩
    rw [e1, e2, bs_ml 3 d, bs_clk (n := 3 * d) (by omega), bs_clk (n := 3 * d + 1) (by omega), bs_clk (n := 3 * d + 2) (by omega)]
    refine my_bring (lv := d + 1) (by omega) ?_
    exact my_begin (x := x) (by omega) (by omega) hx hoc (by rw [hI.1 (pl + 1) (by omega) h, ex]) (hp h (by omega) s (fun j hj => hI.1 j (by omega) hj) hI.2 x hx ex)
  · intro n i s hi hI k
    refine br_f (nI_ge (b := 24) hi (by omega)) ⟨pk_in (24 * d + i) 192 (by omega) (bs_ix 24 d i), pk_in (24 * (d + 1) + i) 192 (by omega) (bs_ix 24 (d + 1) i), nm_r (e' := upd s (24 * (d + 1) + i) (vp_nar .byte (y_chosen (24 * d + i)))) (by rw [bs_ix 24 d i, bs_ix 24 (d + 1) i, bs_clk (n := 24 * d + i) (by omega), bs_clk (n := 24 * (d + 1) + i) (by omega), hI.2 _ (by omega)]) (nm_r (nI_1 i) (k _ ⟨fun j hj hjm => ?_, fun j hj => ?_⟩))⟩
    · by_cases ej : j = i
      · rw [ej] at hjm ⊢
        obtain ⟨y, hy, ey⟩ := eC i hjm
        rw [pk_us, ey, bs_vb (by omega)]
      · rw [pk_un (by omega)]; exact hI.1 j (by omega) hjm
    · rw [pk_un (by omega)]; exact hI.2 j hj
theorem my_wk_long {post : SY → Prop} (hp : post (y_classes, y_supers, y_objects, y_specials, y_depth, y_ops, y_held, 7, nI 120, y_shownSteps, y_result, y_line, y_lineLength, y_has, y_sealed, y_initial, y_drafted, y_draftHas, y_draftInitial, y_lists, y_listLength, y_gone, y_classOfObject, y_slots, y_parameters, y_generic, y_single, y_special, y_kind, y_tokens, y_with, y_methodAt, y_pc, y_chosen, y_many, y_reached, y_opsAt, y_broken, y_arguments, y_operands, y_operator, y_got)) : wpY_work post (y_classes, y_supers, y_objects, y_specials, y_depth, y_ops, y_held, y_fault, nI 120, y_shownSteps, y_result, y_line, y_lineLength, y_has, y_sealed, y_initial, y_drafted, y_draftHas, y_draftInitial, y_lists, y_listLength, y_gone, y_classOfObject, y_slots, y_parameters, y_generic, y_single, y_special, y_kind, y_tokens, y_with, y_methodAt, y_pc, y_chosen, y_many, y_reached, y_opsAt, y_broken, y_arguments, y_operands, y_operator, y_got) := by
  unfold wpY_work
  exact br_t rfl hp
theorem my_wk_num {post : SY → Prop} {s d m pc : Nat} (hs : s < 120) (hd : d < 8) (hm : m < 24) (hpc : pc < 16) (eM : y_methodAt d = nI m) (eT : y_pc d = nI pc) (ek : y_kind (16 * m + pc) = nI 0) (hp : wpY_deliver post (y_classes, y_supers, y_objects, y_specials, nI (d + 1), y_ops, y_held, y_fault, nI (s + 1), y_shownSteps, y_result, y_line, y_lineLength, y_has, y_sealed, y_initial, y_drafted, y_draftHas, y_draftInitial, y_lists, y_listLength, y_gone, y_classOfObject, y_slots, y_parameters, y_generic, y_single, y_special, y_kind, y_tokens, y_with, y_methodAt, upd y_pc d (nI (pc + 1)), y_chosen, y_many, y_reached, y_opsAt, y_broken, y_arguments, y_operands, y_operator, y_got) (y_with (16 * m + pc)).toInt64) : wpY_work post (y_classes, y_supers, y_objects, y_specials, nI (d + 1), y_ops, y_held, y_fault, nI s, y_shownSteps, y_result, y_line, y_lineLength, y_has, y_sealed, y_initial, y_drafted, y_draftHas, y_draftInitial, y_lists, y_listLength, y_gone, y_classOfObject, y_slots, y_parameters, y_generic, y_single, y_special, y_kind, y_tokens, y_with, y_methodAt, y_pc, y_chosen, y_many, y_reached, y_opsAt, y_broken, y_arguments, y_operands, y_operator, y_got) := by
  unfold wpY_work
  refine pk_eq s 120 (fun e => by omega) (fun _ => nm_r (nI_1 s) (nm_r (nI_pred d) ⟨pk_in d 8 hd, pk_in d 8 hd, pk_in d 8 hd, nm_r (e' := upd y_pc d (nI (pc + 1))) (by rw [bs_clk (n := d) (by omega), eT, nI_1, bs_vb8 (by omega)]) (nm_r (e' := nI (16 * m + pc)) (by rw [bs_clk (n := d) (by omega), eM, eT, bs_ix 16 m pc]) ⟨pk_in (16 * m + pc) 400 (by omega), nm_r (e' := y_kind (16 * m + pc)) (by rw [bs_clk (by omega)]) ?_⟩)⟩))
  rw [ek]
  refine br_t rfl ⟨pk_in (16 * m + pc) 400 (by omega), ?_⟩
  rw [bs_clk (n := 16 * m + pc) (by omega)]
  exact cm_eta (fun t => by obtain ⟨z_classes, z_supers, z_objects, z_specials, z_depth, z_ops, z_held, z_fault, z_steps, z_shownSteps, z_result, z_line, z_lineLength, z_has, z_sealed, z_initial, z_drafted, z_draftHas, z_draftInitial, z_lists, z_listLength, z_gone, z_classOfObject, z_slots, z_parameters, z_generic, z_single, z_special, z_kind, z_tokens, z_with, z_methodAt, z_pc, z_chosen, z_many, z_reached, z_opsAt, z_broken, z_arguments, z_operands, z_operator, z_got⟩ := t; rfl) (C := fun Q => wpY_deliver Q _ _) hp
theorem my_wk_arg {post : SY → Prop} {s d m pc : Nat} (hs : s < 120) (hd : d < 8) (hm : m < 24) (hpc : pc < 16) (eM : y_methodAt d = nI m) (eT : y_pc d = nI pc) {a : Nat} (ha : a < 3) (ek : y_kind (16 * m + pc) = nI 1) (ea : y_with (16 * m + pc) = nI a) (hp : wpY_deliver post (y_classes, y_supers, y_objects, y_specials, nI (d + 1), y_ops, y_held, y_fault, nI (s + 1), y_shownSteps, y_result, y_line, y_lineLength, y_has, y_sealed, y_initial, y_drafted, y_draftHas, y_draftInitial, y_lists, y_listLength, y_gone, y_classOfObject, y_slots, y_parameters, y_generic, y_single, y_special, y_kind, y_tokens, y_with, y_methodAt, upd y_pc d (nI (pc + 1)), y_chosen, y_many, y_reached, y_opsAt, y_broken, y_arguments, y_operands, y_operator, y_got) (y_arguments (3 * d + a))) : wpY_work post (y_classes, y_supers, y_objects, y_specials, nI (d + 1), y_ops, y_held, y_fault, nI s, y_shownSteps, y_result, y_line, y_lineLength, y_has, y_sealed, y_initial, y_drafted, y_draftHas, y_draftInitial, y_lists, y_listLength, y_gone, y_classOfObject, y_slots, y_parameters, y_generic, y_single, y_special, y_kind, y_tokens, y_with, y_methodAt, y_pc, y_chosen, y_many, y_reached, y_opsAt, y_broken, y_arguments, y_operands, y_operator, y_got) := by
  unfold wpY_work
  refine pk_eq s 120 (fun e => by omega) (fun _ => nm_r (nI_1 s) (nm_r (nI_pred d) ⟨pk_in d 8 hd, pk_in d 8 hd, pk_in d 8 hd, nm_r (e' := upd y_pc d (nI (pc + 1))) (by rw [bs_clk (n := d) (by omega), eT, nI_1, bs_vb8 (by omega)]) (nm_r (e' := nI (16 * m + pc)) (by rw [bs_clk (n := d) (by omega), eM, eT, bs_ix 16 m pc]) ⟨pk_in (16 * m + pc) 400 (by omega), nm_r (e' := y_kind (16 * m + pc)) (by rw [bs_clk (by omega)]) ?_⟩)⟩))
  rw [ek]
  refine br_f (by decide) (br_t rfl ⟨pk_in (16 * m + pc) 400 (by omega), ?_⟩)
  rw [bs_clk (n := 16 * m + pc) (by omega), ea, bs_ix 3 d a]
  refine ⟨pk_in (3 * d + a) 27 (by omega), ?_⟩
  rw [bs_clk (n := 3 * d + a) (by omega)]
  exact cm_eta (fun t => by obtain ⟨z_classes, z_supers, z_objects, z_specials, z_depth, z_ops, z_held, z_fault, z_steps, z_shownSteps, z_result, z_line, z_lineLength, z_has, z_sealed, z_initial, z_drafted, z_draftHas, z_draftInitial, z_lists, z_listLength, z_gone, z_classOfObject, z_slots, z_parameters, z_generic, z_single, z_special, z_kind, z_tokens, z_with, z_methodAt, z_pc, z_chosen, z_many, z_reached, z_opsAt, z_broken, z_arguments, z_operands, z_operator, z_got⟩ := t; rfl) (C := fun Q => wpY_deliver Q _ _) hp
theorem my_wk_next {post : SY → Prop} {s d m pc : Nat} (hs : s < 120) (hd : d < 8) (hm : m < 24) (hpc : pc < 16) (eM : y_methodAt d = nI m) (eT : y_pc d = nI pc) (ek : y_kind (16 * m + pc) = nI 2) (hp : ∀ Q : SY → Prop, (∀ t : SY, post t → Q t) → wpY_next Q (y_classes, y_supers, y_objects, y_specials, nI (d + 1), y_ops, y_held, y_fault, nI (s + 1), y_shownSteps, y_result, y_line, y_lineLength, y_has, y_sealed, y_initial, y_drafted, y_draftHas, y_draftInitial, y_lists, y_listLength, y_gone, y_classOfObject, y_slots, y_parameters, y_generic, y_single, y_special, y_kind, y_tokens, y_with, y_methodAt, upd y_pc d (nI (pc + 1)), y_chosen, y_many, y_reached, y_opsAt, y_broken, y_arguments, y_operands, y_operator, y_got)) : wpY_work post (y_classes, y_supers, y_objects, y_specials, nI (d + 1), y_ops, y_held, y_fault, nI s, y_shownSteps, y_result, y_line, y_lineLength, y_has, y_sealed, y_initial, y_drafted, y_draftHas, y_draftInitial, y_lists, y_listLength, y_gone, y_classOfObject, y_slots, y_parameters, y_generic, y_single, y_special, y_kind, y_tokens, y_with, y_methodAt, y_pc, y_chosen, y_many, y_reached, y_opsAt, y_broken, y_arguments, y_operands, y_operator, y_got) := by
  unfold wpY_work
  refine pk_eq s 120 (fun e => by omega) (fun _ => nm_r (nI_1 s) (nm_r (nI_pred d) ⟨pk_in d 8 hd, pk_in d 8 hd, pk_in d 8 hd, nm_r (e' := upd y_pc d (nI (pc + 1))) (by rw [bs_clk (n := d) (by omega), eT, nI_1, bs_vb8 (by omega)]) (nm_r (e' := nI (16 * m + pc)) (by rw [bs_clk (n := d) (by omega), eM, eT, bs_ix 16 m pc]) ⟨pk_in (16 * m + pc) 400 (by omega), nm_r (e' := y_kind (16 * m + pc)) (by rw [bs_clk (by omega)]) ?_⟩)⟩))
  rw [ek]
  refine br_f (by decide) (br_f (by decide) (br_t rfl ?_))
  exact hp _ (fun t h => by obtain ⟨z_classes, z_supers, z_objects, z_specials, z_depth, z_ops, z_held, z_fault, z_steps, z_shownSteps, z_result, z_line, z_lineLength, z_has, z_sealed, z_initial, z_drafted, z_draftHas, z_draftInitial, z_lists, z_listLength, z_gone, z_classOfObject, z_slots, z_parameters, z_generic, z_single, z_special, z_kind, z_tokens, z_with, z_methodAt, z_pc, z_chosen, z_many, z_reached, z_opsAt, z_broken, z_arguments, z_operands, z_operator, z_got⟩ := t; exact h)
theorem my_wk_make {post : SY → Prop} {s d m pc : Nat} (hs : s < 120) (hd : d < 8) (hm : m < 24) (hpc : pc < 16) (eM : y_methodAt d = nI m) (eT : y_pc d = nI pc) {nc no c l : Nat} (hcls : rl_cls nc y_line y_lineLength) (hc : c < nc) (hl : l ≤ 16) (el : y_lineLength c = nI l) (hno : no ≤ 20) (ek : y_kind (16 * m + pc) = nI 12) (ea : y_with (16 * m + pc) = nI c) (h5 : c = 1 → post (nI nc, y_supers, nI no, y_specials, nI (d + 1), y_ops, y_held, 5, nI (s + 1), y_shownSteps, y_result, y_line, y_lineLength, y_has, y_sealed, y_initial, y_drafted, y_draftHas, y_draftInitial, y_lists, y_listLength, y_gone, y_classOfObject, y_slots, y_parameters, y_generic, y_single, y_special, y_kind, y_tokens, y_with, y_methodAt, upd y_pc d (nI (pc + 1)), y_chosen, y_many, y_reached, y_opsAt, y_broken, y_arguments, y_operands, y_operator, y_got)) (h8 : c ≠ 1 → no = 20 → post (nI nc, y_supers, nI no, y_specials, nI (d + 1), y_ops, y_held, 8, nI (s + 1), y_shownSteps, y_result, y_line, y_lineLength, y_has, y_sealed, y_initial, y_drafted, y_draftHas, y_draftInitial, y_lists, y_listLength, y_gone, y_classOfObject, y_slots, y_parameters, y_generic, y_single, y_special, y_kind, y_tokens, y_with, y_methodAt, upd y_pc d (nI (pc + 1)), y_chosen, y_many, y_reached, y_opsAt, y_broken, y_arguments, y_operands, y_operator, y_got)) (hp : c ≠ 1 → no < 20 → ∀ SL' : Nat → Int64, mk_PY y_line y_has y_initial y_slots c l no SL' 4 → wpY_deliver post (nI nc, y_supers, nI (no + 1), y_specials, nI (d + 1), y_ops, y_held, y_fault, nI (s + 1), y_shownSteps, y_result, y_line, y_lineLength, y_has, y_sealed, y_initial, y_drafted, y_draftHas, y_draftInitial, y_lists, y_listLength, y_gone, upd y_classOfObject no (nI c), SL', y_parameters, y_generic, y_single, y_special, y_kind, y_tokens, y_with, y_methodAt, upd y_pc d (nI (pc + 1)), y_chosen, y_many, y_reached, y_opsAt, y_broken, y_arguments, y_operands, y_operator, y_got) (lN (4294967296 + no))) : wpY_work post (nI nc, y_supers, nI no, y_specials, nI (d + 1), y_ops, y_held, y_fault, nI s, y_shownSteps, y_result, y_line, y_lineLength, y_has, y_sealed, y_initial, y_drafted, y_draftHas, y_draftInitial, y_lists, y_listLength, y_gone, y_classOfObject, y_slots, y_parameters, y_generic, y_single, y_special, y_kind, y_tokens, y_with, y_methodAt, y_pc, y_chosen, y_many, y_reached, y_opsAt, y_broken, y_arguments, y_operands, y_operator, y_got) := by
  have h16 := hcls.2.1
  unfold wpY_work
  refine pk_eq s 120 (fun e => by omega) (fun _ => nm_r (nI_1 s) (nm_r (nI_pred d) ⟨pk_in d 8 hd, pk_in d 8 hd, pk_in d 8 hd, nm_r (e' := upd y_pc d (nI (pc + 1))) (by rw [bs_clk (n := d) (by omega), eT, nI_1, bs_vb8 (by omega)]) (nm_r (e' := nI (16 * m + pc)) (by rw [bs_clk (n := d) (by omega), eM, eT, bs_ix 16 m pc]) ⟨pk_in (16 * m + pc) 400 (by omega), nm_r (e' := y_kind (16 * m + pc)) (by rw [bs_clk (by omega)]) ?_⟩)⟩))
  rw [ek]
  refine br_f (by decide) (br_f (by decide) (br_f (by decide) (br_t rfl ⟨pk_in (16 * m + pc) 400 (by omega), ?_⟩)))
  rw [bs_clk (n := 16 * m + pc) (by omega), ea]
  unfold wpY_create
  refine pk_eq c 1 (fun e => h5 e) (fun e1 => pk_eq no 20 (fun e => h8 e1 e) (fun e2 => ?_))
  refine my_make hcls hc e1 hl el (by omega) (fun SL' hY => ?_)
  have ev : (4294967296 : Int64) + (nI no).toInt64 = lN (4294967296 + no) := by rw [ob_no hno, ob_K, lN_add]
  dsimp only
  rw [ev]
  exact cm_eta (fun t => by obtain ⟨z_classes, z_supers, z_objects, z_specials, z_depth, z_ops, z_held, z_fault, z_steps, z_shownSteps, z_result, z_line, z_lineLength, z_has, z_sealed, z_initial, z_drafted, z_draftHas, z_draftInitial, z_lists, z_listLength, z_gone, z_classOfObject, z_slots, z_parameters, z_generic, z_single, z_special, z_kind, z_tokens, z_with, z_methodAt, z_pc, z_chosen, z_many, z_reached, z_opsAt, z_broken, z_arguments, z_operands, z_operator, z_got⟩ := t; rfl) (C := fun Q => wpY_deliver Q _ _) (hp e1 (by omega) SL' hY)
theorem my_wk_op {post : SY → Prop} {s d m pc : Nat} (hs : s < 120) (hd : d < 8) (hm : m < 24) (hpc : pc < 16) (eM : y_methodAt d = nI m) (eT : y_pc d = nI pc) {oc q : Nat} (hoc : oc < 128) (ek : y_kind (16 * m + pc) = nI q) (hq3 : 3 ≤ q) (hq11 : q ≤ 11) (hp : post (y_classes, y_supers, y_objects, y_specials, nI (d + 1), nI (oc + 1), y_held, y_fault, nI (s + 1), y_shownSteps, y_result, y_line, y_lineLength, y_has, y_sealed, y_initial, y_drafted, y_draftHas, y_draftInitial, y_lists, y_listLength, y_gone, y_classOfObject, y_slots, y_parameters, y_generic, y_single, y_special, y_kind, y_tokens, y_with, y_methodAt, upd y_pc d (nI (pc + 1)), y_chosen, y_many, y_reached, y_opsAt, y_broken, y_arguments, y_operands, upd y_operator oc (nI pc), upd y_got oc 0)) : wpY_work post (y_classes, y_supers, y_objects, y_specials, nI (d + 1), nI oc, y_held, y_fault, nI s, y_shownSteps, y_result, y_line, y_lineLength, y_has, y_sealed, y_initial, y_drafted, y_draftHas, y_draftInitial, y_lists, y_listLength, y_gone, y_classOfObject, y_slots, y_parameters, y_generic, y_single, y_special, y_kind, y_tokens, y_with, y_methodAt, y_pc, y_chosen, y_many, y_reached, y_opsAt, y_broken, y_arguments, y_operands, y_operator, y_got) := by
  unfold wpY_work
  refine pk_eq s 120 (fun e => by omega) (fun _ => nm_r (nI_1 s) (nm_r (nI_pred d) ⟨pk_in d 8 hd, pk_in d 8 hd, pk_in d 8 hd, nm_r (e' := upd y_pc d (nI (pc + 1))) (by rw [bs_clk (n := d) (by omega), eT, nI_1, bs_vb8 (by omega)]) (nm_r (e' := nI (16 * m + pc)) (by rw [bs_clk (n := d) (by omega), eM, eT, bs_ix 16 m pc]) ⟨pk_in (16 * m + pc) 400 (by omega), nm_r (e' := y_kind (16 * m + pc)) (by rw [bs_clk (by omega)]) ?_⟩)⟩))
  rw [ek]
  refine pk_eq q 0 (fun e => by omega) (fun _ => pk_eq q 1 (fun e => by omega) (fun _ => pk_eq q 2 (fun e => by omega) (fun _ => pk_eq q 12 (fun e => by omega) (fun _ => ⟨pk_in d 8 hd, pk_in oc 136 (by omega), nm_r (e' := upd y_operator oc (nI pc)) ?_ (nm_r (nI_1 oc) ⟨pk_in oc 136 (by omega), nm_r (e' := upd y_got oc 0) (by rw [bs_clk (by omega), bs_v0]) hp⟩)⟩))))
  rw [bs_clk (n := d) (by omega), bs_clk (n := oc) (by omega), eM, bs_ml 16 m, pk_sub (by omega), Nat.add_sub_cancel_left, bs_vb8 (by omega)]
end
end
section
/-! Y: values delivered -/
section
variable {y_classes : Int32} {y_supers : Int32} {y_objects : Int32} {y_specials : Int32} {y_depth : Int32} {y_ops : Int32} {y_held : Int32} {y_fault : Int32} {y_steps : Int32} {y_shownSteps : Int32} {y_result : Int64} {y_line : Nat → Int32} {y_lineLength : Nat → Int32} {y_has : Nat → Int32} {y_sealed : Nat → Int32} {y_initial : Nat → Int32} {y_drafted : Nat → Int32} {y_draftHas : Nat → Int32} {y_draftInitial : Nat → Int32} {y_lists : Nat → Int32} {y_listLength : Nat → Int32} {y_gone : Nat → Int32} {y_classOfObject : Nat → Int32} {y_slots : Nat → Int64} {y_parameters : Nat → Int32} {y_generic : Nat → Int32} {y_single : Nat → Int32} {y_special : Nat → Int64} {y_kind : Nat → Int32} {y_tokens : Nat → Int32} {y_with : Nat → Int32} {y_methodAt : Nat → Int32} {y_pc : Nat → Int32} {y_chosen : Nat → Int32} {y_many : Nat → Int32} {y_reached : Nat → Int32} {y_opsAt : Nat → Int32} {y_broken : Nat → Int32} {y_arguments : Nat → Int64} {y_operands : Nat → Int64} {y_operator : Nat → Int32} {y_got : Nat → Int32}
theorem my_dl_leave {Q : SY → Prop} {n d oc : Nat} {v : Int64} (hd : d < 8) (eO : y_opsAt d = nI oc) (h : wY_deliver_5 Q n v 1 y_classes y_supers y_objects y_specials (nI d) (nI oc) y_held 0 y_steps y_shownSteps y_result y_line y_lineLength y_has y_sealed y_initial y_drafted y_draftHas y_draftInitial y_lists y_listLength y_gone y_classOfObject y_slots y_parameters y_generic y_single y_special y_kind y_tokens y_with y_methodAt y_pc y_chosen y_many y_reached y_opsAt y_broken y_arguments y_operands y_operator y_got) : wY_deliver_5 Q (n + 1) v 1 y_classes y_supers y_objects y_specials (nI (d + 1)) (nI oc) y_held 0 y_steps y_shownSteps y_result y_line y_lineLength y_has y_sealed y_initial y_drafted y_draftHas y_draftInitial y_lists y_listLength y_gone y_classOfObject y_slots y_parameters y_generic y_single y_special y_kind y_tokens y_with y_methodAt y_pc y_chosen y_many y_reached y_opsAt y_broken y_arguments y_operands y_operator y_got :=
  br_f (by decide) (br_t rfl (nm_r (nI_pred d) (br_t (bs_ge0 (by omega)) ⟨pk_in d 8 hd, br_t (by rw [bs_clk (by omega)]; exact eO.symm) (nm_r (nI_pred d) h)⟩)))
theorem my_dl_end {Q : SY → Prop} {n : Nat} {v : Int64} (h : Q (y_classes, y_supers, y_objects, y_specials, nI 0, y_ops, y_held, 0, y_steps, y_shownSteps, v, y_line, y_lineLength, y_has, y_sealed, y_initial, y_drafted, y_draftHas, y_draftInitial, y_lists, y_listLength, y_gone, y_classOfObject, y_slots, y_parameters, y_generic, y_single, y_special, y_kind, y_tokens, y_with, y_methodAt, y_pc, y_chosen, y_many, y_reached, y_opsAt, y_broken, y_arguments, y_operands, y_operator, y_got)) : wY_deliver_5 Q (n + 2) v 1 y_classes y_supers y_objects y_specials (nI 0) y_ops y_held 0 y_steps y_shownSteps y_result y_line y_lineLength y_has y_sealed y_initial y_drafted y_draftHas y_draftInitial y_lists y_listLength y_gone y_classOfObject y_slots y_parameters y_generic y_single y_special y_kind y_tokens y_with y_methodAt y_pc y_chosen y_many y_reached y_opsAt y_broken y_arguments y_operands y_operator y_got :=
  br_f (by decide) (br_t rfl (nm_e (br_f (by decide) (br_t rfl h))))
theorem my_dl_fault {Q : SY → Prop} {n : Nat} {v : Int64} {F : Int32} (hF : ¬ F = 0) (h : Q (y_classes, y_supers, y_objects, y_specials, y_depth, y_ops, y_held, F, y_steps, y_shownSteps, y_result, y_line, y_lineLength, y_has, y_sealed, y_initial, y_drafted, y_draftHas, y_draftInitial, y_lists, y_listLength, y_gone, y_classOfObject, y_slots, y_parameters, y_generic, y_single, y_special, y_kind, y_tokens, y_with, y_methodAt, y_pc, y_chosen, y_many, y_reached, y_opsAt, y_broken, y_arguments, y_operands, y_operator, y_got)) : wY_deliver_5 Q (n + 1) v 1 y_classes y_supers y_objects y_specials y_depth y_ops y_held F y_steps y_shownSteps y_result y_line y_lineLength y_has y_sealed y_initial y_drafted y_draftHas y_draftInitial y_lists y_listLength y_gone y_classOfObject y_slots y_parameters y_generic y_single y_special y_kind y_tokens y_with y_methodAt y_pc y_chosen y_many y_reached y_opsAt y_broken y_arguments y_operands y_operator y_got :=
  br_f (by decide) (br_f hF h)
theorem my_dl_item {Q : SY → Prop} {n d t m j h g fo : Nat} {v : Int64} (hd : d < 8) (ht : t < 136) (hh : h < 512) (hg : g < 100) (hfo : fo ≤ t) (eO : y_opsAt d = nI fo) (eM : y_methodAt d = nI m) (eJ : y_operator t = nI j) (eG : y_got t = nI g)
    (hc : ∀ P : Int32 → SY → Prop, (∀ u : SY, Q u → P 0 u) → (∀ (z_classes : Int32) (z_supers : Int32) (z_objects : Int32) (z_specials : Int32) (z_depth : Int32) (z_ops : Int32) (z_held : Int32) (z_fault : Int32) (z_steps : Int32) (z_shownSteps : Int32) (z_result : Int64) (z_line : Nat → Int32) (z_lineLength : Nat → Int32) (z_has : Nat → Int32) (z_sealed : Nat → Int32) (z_initial : Nat → Int32) (z_drafted : Nat → Int32) (z_draftHas : Nat → Int32) (z_draftInitial : Nat → Int32) (z_lists : Nat → Int32) (z_listLength : Nat → Int32) (z_gone : Nat → Int32) (z_classOfObject : Nat → Int32) (z_slots : Nat → Int64) (z_parameters : Nat → Int32) (z_generic : Nat → Int32) (z_single : Nat → Int32) (z_special : Nat → Int64) (z_kind : Nat → Int32) (z_tokens : Nat → Int32) (z_with : Nat → Int32) (z_methodAt : Nat → Int32) (z_pc : Nat → Int32) (z_chosen : Nat → Int32) (z_many : Nat → Int32) (z_reached : Nat → Int32) (z_opsAt : Nat → Int32) (z_broken : Nat → Int32) (z_arguments : Nat → Int64) (z_operands : Nat → Int64) (z_operator : Nat → Int32) (z_got : Nat → Int32) (h' : Nat), h' < 512 → wY_deliver_5 Q (n + 1) (z_operands h') 1 z_classes z_supers z_objects z_specials z_depth z_ops (nI h') z_fault z_steps z_shownSteps z_result z_line z_lineLength z_has z_sealed z_initial z_drafted z_draftHas z_draftInitial z_lists z_listLength z_gone z_classOfObject z_slots z_parameters z_generic z_single z_special z_kind z_tokens z_with z_methodAt z_pc z_chosen z_many z_reached z_opsAt z_broken z_arguments z_operands z_operator z_got → P 1 (z_classes, z_supers, z_objects, z_specials, z_depth, z_ops, nI (h' + 1), z_fault, z_steps, z_shownSteps, z_result, z_line, z_lineLength, z_has, z_sealed, z_initial, z_drafted, z_draftHas, z_draftInitial, z_lists, z_listLength, z_gone, z_classOfObject, z_slots, z_parameters, z_generic, z_single, z_special, z_kind, z_tokens, z_with, z_methodAt, z_pc, z_chosen, z_many, z_reached, z_opsAt, z_broken, z_arguments, z_operands, z_operator, z_got)) → wpY_complete P (y_classes, y_supers, y_objects, y_specials, nI (d + 1), nI (t + 1), nI (h + 1), 0, y_steps, y_shownSteps, y_result, y_line, y_lineLength, y_has, y_sealed, y_initial, y_drafted, y_draftHas, y_draftInitial, y_lists, y_listLength, y_gone, y_classOfObject, y_slots, y_parameters, y_generic, y_single, y_special, y_kind, y_tokens, y_with, y_methodAt, y_pc, y_chosen, y_many, y_reached, y_opsAt, y_broken, y_arguments, vp_updL y_operands h v, y_operator, upd y_got t (nI (g + 1))) (nI (16 * m + j)) (nI d)) : wY_deliver_5 Q (n + 2) v 1 y_classes y_supers y_objects y_specials (nI (d + 1)) (nI (t + 1)) (nI h) 0 y_steps y_shownSteps y_result y_line y_lineLength y_has y_sealed y_initial y_drafted y_draftHas y_draftInitial y_lists y_listLength y_gone y_classOfObject y_slots y_parameters y_generic y_single y_special y_kind y_tokens y_with y_methodAt y_pc y_chosen y_many y_reached y_opsAt y_broken y_arguments y_operands y_operator y_got := by
  refine br_f (by decide) (br_t rfl (nm_r (nI_pred d) (br_t (bs_ge0 (by omega)) ⟨pk_in d 8 hd, br_f ?_ ⟨pk_in d 8 hd, pk_in t 136 ht (nI_pred t), nm_r (e' := nI (16 * m + j)) (by rw [nI_pred, bs_clk (n := d) (by omega), bs_clk (n := t) (by omega), eM, eJ, bs_ix 16 m j]) (nm_r (nI_1 h) ⟨pk_in h 512 hh, nm_r (e' := vp_updL y_operands h v) (by rw [bs_clk (by omega)]) ⟨pk_in t 136 ht (nI_pred t), pk_in t 136 ht (nI_pred t), nm_r (e' := upd y_got t (nI (g + 1))) (by rw [nI_pred, bs_clk (n := t) (by omega), eG, nI_1, bs_vb8 (by omega)]) (hc _ (fun u hu => ?_) ?_)⟩⟩)⟩⟩)))
  · rw [bs_clk (by omega), eO]
    intro z
    have := bs_inj (by omega) (by omega) z
    omega
  · obtain ⟨z_classes, z_supers, z_objects, z_specials, z_depth, z_ops, z_held, z_fault, z_steps, z_shownSteps, z_result, z_line, z_lineLength, z_has, z_sealed, z_initial, z_drafted, z_draftHas, z_draftInitial, z_lists, z_listLength, z_gone, z_classOfObject, z_slots, z_parameters, z_generic, z_single, z_special, z_kind, z_tokens, z_with, z_methodAt, z_pc, z_chosen, z_many, z_reached, z_opsAt, z_broken, z_arguments, z_operands, z_operator, z_got⟩ := u
    exact br_t rfl (br_t rfl hu)
  · intros
    rename_i h' hh' hdl
    refine br_f (by decide) (nm_r (nI_pred h') ⟨pk_in h' 512 hh' (nI_pred h'), nm_r (by rw [nI_pred, bs_clk (by omega)]) hdl⟩)
theorem my_endOf {post : Int32 → Prop} {nc m t pc s : Nat} (hm : m < 25) (hpar : rl_par y_parameters) (ht : t ≤ 16) (hk : ∀ i, i < t → rl_tk nc (y_kind (16 * m + i)) (y_with (16 * m + i))) (hs : pc + s ≤ t) (h : rl_pn (rl_am y_parameters y_kind y_with m) s pc 1) (hp : post (nI (16 * m + (pc + s)))) : wpY_endOf post (y_classes, y_supers, y_objects, y_specials, y_depth, y_ops, y_held, y_fault, y_steps, y_shownSteps, y_result, y_line, y_lineLength, y_has, y_sealed, y_initial, y_drafted, y_draftHas, y_draftInitial, y_lists, y_listLength, y_gone, y_classOfObject, y_slots, y_parameters, y_generic, y_single, y_special, y_kind, y_tokens, y_with, y_methodAt, y_pc, y_chosen, y_many, y_reached, y_opsAt, y_broken, y_arguments, y_operands, y_operator, y_got) (nI (16 * m + pc)) (nI (16 * m + t)) := by
  unfold wpY_endOf
  exact ⟨s + 1, my_endA hm hpar ht hk s pc 1 (by omega) hs h hp⟩
theorem my_cp_more {P : Int32 → SY → Prop} {c t g1 : Nat} (hc : c < 400) (ht : t < 136) (hg1 : g1 < 128) (eG : y_got t = nI g1) {nc q : Nat} {p1 : Int32} (hpar : rl_par y_parameters) (htk : rl_tk nc (y_kind c) (y_with c)) (ek : y_kind c = nI q) (hq : q ≤ 12) (h9 : q ≠ 9) (hA : g1 < rl_ar y_parameters (y_kind c) (y_with c)) (hp : P 0 (y_classes, y_supers, y_objects, y_specials, y_depth, nI (t + 1), y_held, y_fault, y_steps, y_shownSteps, y_result, y_line, y_lineLength, y_has, y_sealed, y_initial, y_drafted, y_draftHas, y_draftInitial, y_lists, y_listLength, y_gone, y_classOfObject, y_slots, y_parameters, y_generic, y_single, y_special, y_kind, y_tokens, y_with, y_methodAt, y_pc, y_chosen, y_many, y_reached, y_opsAt, y_broken, y_arguments, y_operands, y_operator, y_got)) : wpY_complete P (y_classes, y_supers, y_objects, y_specials, y_depth, nI (t + 1), y_held, y_fault, y_steps, y_shownSteps, y_result, y_line, y_lineLength, y_has, y_sealed, y_initial, y_drafted, y_draftHas, y_draftInitial, y_lists, y_listLength, y_gone, y_classOfObject, y_slots, y_parameters, y_generic, y_single, y_special, y_kind, y_tokens, y_with, y_methodAt, y_pc, y_chosen, y_many, y_reached, y_opsAt, y_broken, y_arguments, y_operands, y_operator, y_got) (nI c) p1 := by
  have h3 := pa_ar3 hpar htk
  unfold wpY_complete
  refine ⟨pk_in c 400 hc, nm_r (e' := y_kind c) (by rw [bs_clk (by omega)]) ⟨pk_in t 136 ht (nI_pred t), nm_r (e' := nI g1) (by rw [nI_pred, bs_clk (by omega), eG]) ?_⟩⟩
  refine br_f (by rw [ek]; exact fun z => h9 (bs_inj (b := 9) (by omega) (by omega) z)) (my_operandsOf hc hpar htk (br_f (nI_ge hA (by omega)) hp))
theorem my_choose1 {P : Int32 → SY → Prop} {d m n pc s nc t hh : Nat} {p0 : Int32} (hd : d < 8) (hm : m < 24) (hpar : rl_par y_parameters) (hn : n ≤ 16) (en : y_tokens m = nI n) (hk : ∀ i, i < n → rl_tk nc (y_kind (16 * m + i)) (y_with (16 * m + i))) (eM : y_methodAt d = nI m) (eT : y_pc d = nI pc) (hs : pc + s ≤ n) (h : rl_pn (rl_am y_parameters y_kind y_with m) s pc 1) (hhh : hh < 512)
    (h1 : ¬ y_operands hh = 0 → P 0 (y_classes, y_supers, y_objects, y_specials, y_depth, nI (t + 1), nI hh, y_fault, y_steps, y_shownSteps, y_result, y_line, y_lineLength, y_has, y_sealed, y_initial, y_drafted, y_draftHas, y_draftInitial, y_lists, y_listLength, y_gone, y_classOfObject, y_slots, y_parameters, y_generic, y_single, y_special, y_kind, y_tokens, y_with, y_methodAt, y_pc, y_chosen, y_many, y_reached, y_opsAt, y_broken, y_arguments, y_operands, y_operator, y_got)) (h0 : y_operands hh = 0 → P 0 (y_classes, y_supers, y_objects, y_specials, y_depth, nI t, nI hh, y_fault, y_steps, y_shownSteps, y_result, y_line, y_lineLength, y_has, y_sealed, y_initial, y_drafted, y_draftHas, y_draftInitial, y_lists, y_listLength, y_gone, y_classOfObject, y_slots, y_parameters, y_generic, y_single, y_special, y_kind, y_tokens, y_with, y_methodAt, upd y_pc d (nI (pc + s)), y_chosen, y_many, y_reached, y_opsAt, y_broken, y_arguments, y_operands, y_operator, y_got)) : wpY_choose P (y_classes, y_supers, y_objects, y_specials, y_depth, nI (t + 1), nI (hh + 1), y_fault, y_steps, y_shownSteps, y_result, y_line, y_lineLength, y_has, y_sealed, y_initial, y_drafted, y_draftHas, y_draftInitial, y_lists, y_listLength, y_gone, y_classOfObject, y_slots, y_parameters, y_generic, y_single, y_special, y_kind, y_tokens, y_with, y_methodAt, y_pc, y_chosen, y_many, y_reached, y_opsAt, y_broken, y_arguments, y_operands, y_operator, y_got) p0 (nI d) (nI 1) := by
  have epc : nI (16 * m + (pc + s)) - nI (16 * m) = nI (pc + s) := by rw [pk_sub (by omega), Nat.add_sub_cancel_left]
  unfold wpY_choose
  refine ⟨pk_in d 8 hd, ?_⟩
  rw [bs_clk (n := d) (by omega), eM, eT, bs_clk (n := m) (by omega), en]
  refine nm_r (bs_ml 16 m) ⟨pk_in d 8 hd, pk_in m 25 (by omega), nm_r (nI_add _ _) ⟨pk_in d 8 hd, nm_r (nI_add _ _) (br_t rfl (nm_r (nI_pred hh) ⟨pk_in hh 512 hhh (nI_pred hh), ?_⟩))⟩⟩
  rw [nI_pred, bs_clk (n := hh) (by omega)]
  refine br_c (fun z => br_f (by decide) ?_) (fun z => br_t rfl (h1 z))
  exact my_endOf (by omega) hpar hn hk hs h ⟨pk_in d 8 hd, nm_r (e' := upd y_pc d (nI (pc + s))) (by first | rw [bs_clk (n := d) (by omega), epc, bs_vb8 (by omega)] | rw [epc, bs_vb8 (by omega)]) (nm_r (nI_pred t) (h0 z))⟩
theorem my_choose2 {P : Int32 → SY → Prop} {d m n pc s nc t hh : Nat} {p0 : Int32} (hd : d < 8) (hm : m < 24) (hpar : rl_par y_parameters) (hn : n ≤ 16) (en : y_tokens m = nI n) (hk : ∀ i, i < n → rl_tk nc (y_kind (16 * m + i)) (y_with (16 * m + i))) (eM : y_methodAt d = nI m) (eT : y_pc d = nI pc) (hs : pc + s ≤ n) (h : rl_pn (rl_am y_parameters y_kind y_with m) s pc 1) (hhh : hh < 512)
    (h2 : P 1 (y_classes, y_supers, y_objects, y_specials, y_depth, nI t, nI (hh + 1), y_fault, y_steps, y_shownSteps, y_result, y_line, y_lineLength, y_has, y_sealed, y_initial, y_drafted, y_draftHas, y_draftInitial, y_lists, y_listLength, y_gone, y_classOfObject, y_slots, y_parameters, y_generic, y_single, y_special, y_kind, y_tokens, y_with, y_methodAt, upd y_pc d (nI (pc + s)), y_chosen, y_many, y_reached, y_opsAt, y_broken, y_arguments, y_operands, y_operator, y_got)) : wpY_choose P (y_classes, y_supers, y_objects, y_specials, y_depth, nI (t + 1), nI (hh + 1), y_fault, y_steps, y_shownSteps, y_result, y_line, y_lineLength, y_has, y_sealed, y_initial, y_drafted, y_draftHas, y_draftInitial, y_lists, y_listLength, y_gone, y_classOfObject, y_slots, y_parameters, y_generic, y_single, y_special, y_kind, y_tokens, y_with, y_methodAt, y_pc, y_chosen, y_many, y_reached, y_opsAt, y_broken, y_arguments, y_operands, y_operator, y_got) p0 (nI d) (nI 2) := by
  have epc : nI (16 * m + (pc + s)) - nI (16 * m) = nI (pc + s) := by rw [pk_sub (by omega), Nat.add_sub_cancel_left]
  unfold wpY_choose
  refine ⟨pk_in d 8 hd, ?_⟩
  rw [bs_clk (n := d) (by omega), eM, eT, bs_clk (n := m) (by omega), en]
  refine nm_r (bs_ml 16 m) ⟨pk_in d 8 hd, pk_in m 25 (by omega), nm_r (nI_add _ _) ⟨pk_in d 8 hd, nm_r (nI_add _ _) (br_f (by decide) ?_)⟩⟩
  exact my_endOf (by omega) hpar hn hk hs h ⟨pk_in d 8 hd, nm_r (e' := upd y_pc d (nI (pc + s))) (by first | rw [bs_clk (n := d) (by omega), epc, bs_vb8 (by omega)] | rw [epc, bs_vb8 (by omega)]) (nm_r (nI_pred t) h2)⟩
theorem my_cp_if {P : Int32 → SY → Prop} {c t g1 : Nat} (hc : c < 400) (ht : t < 136) (hg1 : g1 < 128) (eG : y_got t = nI g1) {d : Nat} (ek : y_kind c = nI 9) (hp : ∀ P' : Int32 → SY → Prop, (∀ r u, (r = 0 ∨ r = 1) → P r u → P' r u) → wpY_choose P' (y_classes, y_supers, y_objects, y_specials, y_depth, nI (t + 1), y_held, y_fault, y_steps, y_shownSteps, y_result, y_line, y_lineLength, y_has, y_sealed, y_initial, y_drafted, y_draftHas, y_draftInitial, y_lists, y_listLength, y_gone, y_classOfObject, y_slots, y_parameters, y_generic, y_single, y_special, y_kind, y_tokens, y_with, y_methodAt, y_pc, y_chosen, y_many, y_reached, y_opsAt, y_broken, y_arguments, y_operands, y_operator, y_got) (nI c) (nI d) (nI g1)) : wpY_complete P (y_classes, y_supers, y_objects, y_specials, y_depth, nI (t + 1), y_held, y_fault, y_steps, y_shownSteps, y_result, y_line, y_lineLength, y_has, y_sealed, y_initial, y_drafted, y_draftHas, y_draftInitial, y_lists, y_listLength, y_gone, y_classOfObject, y_slots, y_parameters, y_generic, y_single, y_special, y_kind, y_tokens, y_with, y_methodAt, y_pc, y_chosen, y_many, y_reached, y_opsAt, y_broken, y_arguments, y_operands, y_operator, y_got) (nI c) (nI d) := by
  unfold wpY_complete
  refine ⟨pk_in c 400 hc, nm_r (e' := y_kind c) (by rw [bs_clk (by omega)]) ⟨pk_in t 136 ht (nI_pred t), nm_r (e' := nI g1) (by rw [nI_pred, bs_clk (by omega), eG]) ?_⟩⟩
  refine br_t ek (hp _ (fun r u hr h => ?_))
  obtain ⟨z_classes, z_supers, z_objects, z_specials, z_depth, z_ops, z_held, z_fault, z_steps, z_shownSteps, z_result, z_line, z_lineLength, z_has, z_sealed, z_initial, z_drafted, z_draftHas, z_draftInitial, z_lists, z_listLength, z_gone, z_classOfObject, z_slots, z_parameters, z_generic, z_single, z_special, z_kind, z_tokens, z_with, z_methodAt, z_pc, z_chosen, z_many, z_reached, z_opsAt, z_broken, z_arguments, z_operands, z_operator, z_got⟩ := u
  exact ⟨bs_zn hr, h⟩
theorem my_slotOf {P : Int64 → SY → Prop} {no n : Nat} {v : Int64} (hno : no ≤ 20) (hn : n < 4) (hv : rl_val no v) (h0 : (¬ ∃ k, k < no ∧ v = lN (4294967296 + k) ∧ ¬ y_slots (4 * k + n) = -9223372036854775808) → P 0 (y_classes, y_supers, y_objects, y_specials, y_depth, y_ops, y_held, 4, y_steps, y_shownSteps, y_result, y_line, y_lineLength, y_has, y_sealed, y_initial, y_drafted, y_draftHas, y_draftInitial, y_lists, y_listLength, y_gone, y_classOfObject, y_slots, y_parameters, y_generic, y_single, y_special, y_kind, y_tokens, y_with, y_methodAt, y_pc, y_chosen, y_many, y_reached, y_opsAt, y_broken, y_arguments, y_operands, y_operator, y_got)) (h1 : ∀ k, k < no → v = lN (4294967296 + k) → ¬ y_slots (4 * k + n) = -9223372036854775808 → P (y_slots (4 * k + n)) (y_classes, y_supers, y_objects, y_specials, y_depth, y_ops, y_held, y_fault, y_steps, y_shownSteps, y_result, y_line, y_lineLength, y_has, y_sealed, y_initial, y_drafted, y_draftHas, y_draftInitial, y_lists, y_listLength, y_gone, y_classOfObject, y_slots, y_parameters, y_generic, y_single, y_special, y_kind, y_tokens, y_with, y_methodAt, y_pc, y_chosen, y_many, y_reached, y_opsAt, y_broken, y_arguments, y_operands, y_operator, y_got)) : wpY_slotOf P (y_classes, y_supers, y_objects, y_specials, y_depth, y_ops, y_held, y_fault, y_steps, y_shownSteps, y_result, y_line, y_lineLength, y_has, y_sealed, y_initial, y_drafted, y_draftHas, y_draftInitial, y_lists, y_listLength, y_gone, y_classOfObject, y_slots, y_parameters, y_generic, y_single, y_special, y_kind, y_tokens, y_with, y_methodAt, y_pc, y_chosen, y_many, y_reached, y_opsAt, y_broken, y_arguments, y_operands, y_operator, y_got) v (nI n) := by
  unfold wpY_slotOf
  rcases hv with hi | ⟨k, hk, rfl⟩
  · refine br_t (cl_il hi) (br_f (by decide) (br_f (by decide) (h0 ?_)))
    rintro ⟨k, hk, e, _⟩
    rw [e] at hi
    exact ob_ni (by omega) hi
  · refine br_f (cl_ol k (by omega)) ?_
    have ei : (4 : Int32) * (lN (4294967296 + k) - 4294967296).toInt32 + nI n = nI (4 * k + n) := by rw [ob_ix (by omega), bs_ix 4 k n]
    refine ⟨pk_in (4 * k + n) 80 (by omega) ei, ?_⟩
    rw [ei, bs_clk (n := 4 * k + n) (by omega)]
    refine br_c (fun z => br_f (by decide) (br_f (by decide) (h0 ?_))) (fun z => br_t rfl (br_t rfl ⟨pk_in (4 * k + n) 80 (by omega) ei, ?_⟩))
    · rintro ⟨q, hq, e, e2⟩
      have := ob_inj (by omega) (by omega) e
      subst this
      exact e2 z
    · rw [ei, bs_clk (n := 4 * k + n) (by omega)]
      exact h1 k hk rfl z
theorem my_cp_get {P : Int32 → SY → Prop} {c t g1 : Nat} (hc : c < 400) (ht : t < 136) (hg1 : g1 < 128) (eG : y_got t = nI g1) {nc : Nat} (hpar : rl_par y_parameters) (htk : rl_tk nc (y_kind c) (y_with c)) (eA : rl_ar y_parameters (y_kind c) (y_with c) = g1) {no n hh : Nat} {p1 : Int32} (hno : no ≤ 20) (hn : n < 4) (hhh : hh < 512) (ek : y_kind c = nI 4) (ew : y_with c = nI n) (hv : rl_val no (y_operands hh)) (h0 : (¬ ∃ k, k < no ∧ y_operands hh = lN (4294967296 + k) ∧ ¬ y_slots (4 * k + n) = -9223372036854775808) → P 1 (y_classes, y_supers, y_objects, y_specials, y_depth, nI t, nI (hh + 1), 4, y_steps, y_shownSteps, y_result, y_line, y_lineLength, y_has, y_sealed, y_initial, y_drafted, y_draftHas, y_draftInitial, y_lists, y_listLength, y_gone, y_classOfObject, y_slots, y_parameters, y_generic, y_single, y_special, y_kind, y_tokens, y_with, y_methodAt, y_pc, y_chosen, y_many, y_reached, y_opsAt, y_broken, y_arguments, vp_updL y_operands hh 0, y_operator, y_got)) (h1 : ∀ k, k < no → y_operands hh = lN (4294967296 + k) → ¬ y_slots (4 * k + n) = -9223372036854775808 → P 1 (y_classes, y_supers, y_objects, y_specials, y_depth, nI t, nI (hh + 1), y_fault, y_steps, y_shownSteps, y_result, y_line, y_lineLength, y_has, y_sealed, y_initial, y_drafted, y_draftHas, y_draftInitial, y_lists, y_listLength, y_gone, y_classOfObject, y_slots, y_parameters, y_generic, y_single, y_special, y_kind, y_tokens, y_with, y_methodAt, y_pc, y_chosen, y_many, y_reached, y_opsAt, y_broken, y_arguments, vp_updL y_operands hh (y_slots (4 * k + n)), y_operator, y_got)) : wpY_complete P (y_classes, y_supers, y_objects, y_specials, y_depth, nI (t + 1), nI (hh + 1), y_fault, y_steps, y_shownSteps, y_result, y_line, y_lineLength, y_has, y_sealed, y_initial, y_drafted, y_draftHas, y_draftInitial, y_lists, y_listLength, y_gone, y_classOfObject, y_slots, y_parameters, y_generic, y_single, y_special, y_kind, y_tokens, y_with, y_methodAt, y_pc, y_chosen, y_many, y_reached, y_opsAt, y_broken, y_arguments, y_operands, y_operator, y_got) (nI c) p1 := by
  unfold wpY_complete
  refine ⟨pk_in c 400 hc, nm_r (e' := y_kind c) (by rw [bs_clk (by omega)]) ⟨pk_in t 136 ht (nI_pred t), nm_r (e' := nI g1) (by rw [nI_pred, bs_clk (by omega), eG]) ?_⟩⟩
  rw [ek]
  refine br_f (by decide) (my_operandsOf hc hpar htk ?_)
  rw [eA]
  refine br_t (nI_le (Nat.le_refl _) (by omega)) (nm_r (nI_pred t) ?_)
  refine br_f (by decide) (nm_r (nI_pred hh) ⟨pk_in hh 512 hhh (nI_pred hh), nm_r (e' := y_operands hh) (by rw [nI_pred, bs_clk (by omega)]) (br_t rfl (nm_r (nI_1 hh) ⟨pk_in c 400 hc, ?_⟩))⟩)
  rw [bs_clk (n := c) (by omega), ew]
  exact my_slotOf hno hn hv (fun h => ⟨pk_in hh 512 hhh, nm_r (by rw [bs_clk (by omega)]) (h0 h)⟩) (fun k hk e e2 => ⟨pk_in hh 512 hhh, nm_r (by rw [bs_clk (by omega)]) (h1 k hk e e2)⟩)
theorem my_cp_is {P : Int32 → SY → Prop} {c t g1 : Nat} (hc : c < 400) (ht : t < 136) (hg1 : g1 < 128) (eG : y_got t = nI g1) {nc : Nat} (hpar : rl_par y_parameters) (htk : rl_tk nc (y_kind c) (y_with c)) (eA : rl_ar y_parameters (y_kind c) (y_with c) = g1) {no hh : Nat} {p1 : Int32} (hcls : rl_cls nc y_line y_lineLength) (hno : no ≤ 20) (hoc : ∀ k, k < no → ∃ c, c < nc ∧ y_classOfObject k = nI c) (hhh : hh < 512) (ek : y_kind c = nI 11) (hv : rl_val no (y_operands hh)) (hp : P 1 (y_classes, y_supers, nI no, y_specials, y_depth, nI t, nI (hh + 1), y_fault, y_steps, y_shownSteps, y_result, y_line, y_lineLength, y_has, y_sealed, y_initial, y_drafted, y_draftHas, y_draftInitial, y_lists, y_listLength, y_gone, y_classOfObject, y_slots, y_parameters, y_generic, y_single, y_special, y_kind, y_tokens, y_with, y_methodAt, y_pc, y_chosen, y_many, y_reached, y_opsAt, y_broken, y_arguments, vp_updL y_operands hh (bs_ci (or_pl y_line y_lineLength (ob_kc y_classOfObject no (y_operands hh)).toNatClampNeg (y_with c) = -1) 0 1), y_operator, y_got)) : wpY_complete P (y_classes, y_supers, nI no, y_specials, y_depth, nI (t + 1), nI (hh + 1), y_fault, y_steps, y_shownSteps, y_result, y_line, y_lineLength, y_has, y_sealed, y_initial, y_drafted, y_draftHas, y_draftInitial, y_lists, y_listLength, y_gone, y_classOfObject, y_slots, y_parameters, y_generic, y_single, y_special, y_kind, y_tokens, y_with, y_methodAt, y_pc, y_chosen, y_many, y_reached, y_opsAt, y_broken, y_arguments, y_operands, y_operator, y_got) (nI c) p1 := by
  have h16 := hcls.2.1
  unfold wpY_complete
  refine ⟨pk_in c 400 hc, nm_r (e' := y_kind c) (by rw [bs_clk (by omega)]) ⟨pk_in t 136 ht (nI_pred t), nm_r (e' := nI g1) (by rw [nI_pred, bs_clk (by omega), eG]) ?_⟩⟩
  rw [ek]
  refine br_f (by decide) (my_operandsOf hc hpar htk ?_)
  rw [eA]
  refine br_t (nI_le (Nat.le_refl _) (by omega)) (nm_r (nI_pred t) ?_)
  refine br_f (by decide) (nm_r (nI_pred hh) ⟨pk_in hh 512 hhh (nI_pred hh), nm_r (e' := y_operands hh) (by rw [nI_pred, bs_clk (by omega)]) (br_f (by decide) (br_t rfl (nm_r (nI_1 hh) ⟨pk_in c 400 hc, ?_⟩)))⟩)
  rw [bs_clk (n := c) (by omega)]
  unfold wpY_is
  refine my_classOf hno ?_
  obtain ⟨e, he, _, ek2⟩ := or_cv_v hcls.1 hno hoc hv
  obtain ⟨l, hl, el, _⟩ := hcls.2.2 e he
  rw [ek2, bs_clk (by omega)] at hp
  rw [ek2]
  refine my_place (by omega) hl el ?_
  rcases or_pl_c (LC := y_line) (s := y_with c) hl el with e1 | ⟨j, hj, e1⟩
  · rw [e1, bs_ct rfl] at hp
    rw [e1]
    exact br_t (by decide) (br_t rfl ⟨pk_in hh 512 hhh, nm_r (by rw [bs_clk (by omega)]) hp⟩)
  · rw [e1, bs_cf (bs_n1 (by omega))] at hp
    rw [e1]
    exact br_f (nI_pos (by omega)) (br_f (by decide) ⟨pk_in hh 512 hhh, nm_r (by rw [bs_clk (by omega)]) hp⟩)
theorem my_ile {x y : Int64} (hx : rl_int x) (hy : rl_int y) : y ≤ x ↔ y.toInt32 ≤ x.toInt32 := by
  rw [Int64.le_iff_toInt_le, Int32.le_iff_toInt_le]
  have h1 := congrArg Int64.toInt hx
  have h2 := congrArg Int64.toInt hy
  rw [Int32.toInt_toInt64] at h1 h2
  rw [h1, h2]
/-- no object that has the slot -/
def cm_no (SL : Nat → Int64) (no n : Nat) (v : Int64) : Prop := ¬ ∃ k, k < no ∧ v = lN (4294967296 + k) ∧ ¬ SL (4 * k + n) = -9223372036854775808
theorem my_two {post : SY → Prop} {no n q hh : Nat} {w : Int32} {y : Int64} (hno : no ≤ 20) (hhh : hh < 512) (hq : q = 5 ∨ q = 6 ∨ q = 7 ∨ q = 8 ∨ q = 10) (hw : q = 5 → n < 4 ∧ w = nI n) (hv : rl_val no (y_operands hh))
    (h10 : q = 10 → post (y_classes, y_supers, y_objects, y_specials, y_depth, y_ops, nI (hh + 1), y_fault, y_steps, y_shownSteps, y_result, y_line, y_lineLength, y_has, y_sealed, y_initial, y_drafted, y_draftHas, y_draftInitial, y_lists, y_listLength, y_gone, y_classOfObject, y_slots, y_parameters, y_generic, y_single, y_special, y_kind, y_tokens, y_with, y_methodAt, y_pc, y_chosen, y_many, y_reached, y_opsAt, y_broken, y_arguments, vp_updL y_operands hh y, y_operator, y_got))
    (h50 : q = 5 → cm_no y_slots no n (y_operands hh) → post (y_classes, y_supers, y_objects, y_specials, y_depth, y_ops, nI (hh + 1), 4, y_steps, y_shownSteps, y_result, y_line, y_lineLength, y_has, y_sealed, y_initial, y_drafted, y_draftHas, y_draftInitial, y_lists, y_listLength, y_gone, y_classOfObject, y_slots, y_parameters, y_generic, y_single, y_special, y_kind, y_tokens, y_with, y_methodAt, y_pc, y_chosen, y_many, y_reached, y_opsAt, y_broken, y_arguments, vp_updL y_operands hh y, y_operator, y_got))
    (h51 : q = 5 → ∀ k, k < no → y_operands hh = lN (4294967296 + k) → ¬ y_slots (4 * k + n) = -9223372036854775808 → post (y_classes, y_supers, y_objects, y_specials, y_depth, y_ops, nI (hh + 1), 0, y_steps, y_shownSteps, y_result, y_line, y_lineLength, y_has, y_sealed, y_initial, y_drafted, y_draftHas, y_draftInitial, y_lists, y_listLength, y_gone, y_classOfObject, vp_updL y_slots (4 * k + n) y, y_parameters, y_generic, y_single, y_special, y_kind, y_tokens, y_with, y_methodAt, y_pc, y_chosen, y_many, y_reached, y_opsAt, y_broken, y_arguments, vp_updL y_operands hh y, y_operator, y_got))
    (hi0 : 6 ≤ q → q ≤ 8 → ¬ (rl_int (y_operands hh) ∧ rl_int y) → ∀ od, post (y_classes, y_supers, y_objects, y_specials, y_depth, y_ops, nI (hh + 1), 5, y_steps, y_shownSteps, y_result, y_line, y_lineLength, y_has, y_sealed, y_initial, y_drafted, y_draftHas, y_draftInitial, y_lists, y_listLength, y_gone, y_classOfObject, y_slots, y_parameters, y_generic, y_single, y_special, y_kind, y_tokens, y_with, y_methodAt, y_pc, y_chosen, y_many, y_reached, y_opsAt, y_broken, y_arguments, od, y_operator, y_got))
    (hi1 : 6 ≤ q → q ≤ 8 → rl_int (y_operands hh) → rl_int y → post (y_classes, y_supers, y_objects, y_specials, y_depth, y_ops, nI (hh + 1), 0, y_steps, y_shownSteps, y_result, y_line, y_lineLength, y_has, y_sealed, y_initial, y_drafted, y_draftHas, y_draftInitial, y_lists, y_listLength, y_gone, y_classOfObject, y_slots, y_parameters, y_generic, y_single, y_special, y_kind, y_tokens, y_with, y_methodAt, y_pc, y_chosen, y_many, y_reached, y_opsAt, y_broken, y_arguments, vp_updL y_operands hh (cm_int q (y_operands hh).toInt32 y.toInt32), y_operator, y_got)) : y_fault = 0 → wpY_two post (y_classes, y_supers, y_objects, y_specials, y_depth, y_ops, nI (hh + 1), y_fault, y_steps, y_shownSteps, y_result, y_line, y_lineLength, y_has, y_sealed, y_initial, y_drafted, y_draftHas, y_draftInitial, y_lists, y_listLength, y_gone, y_classOfObject, y_slots, y_parameters, y_generic, y_single, y_special, y_kind, y_tokens, y_with, y_methodAt, y_pc, y_chosen, y_many, y_reached, y_opsAt, y_broken, y_arguments, y_operands, y_operator, y_got) (nI q) w y := by
  intro ef
  subst ef
  have k41 : ∀ z0 : Int32, ((z0 = 1 ∧ rl_int (y_operands hh) ∧ rl_int y) ∨ (z0 = 0 ∧ ¬ (rl_int (y_operands hh) ∧ rl_int y))) → wY_two_41 post (nI q) w y (y_operands hh) z0 y_classes y_supers y_objects y_specials y_depth y_ops (nI hh) 0 y_steps y_shownSteps y_result y_line y_lineLength y_has y_sealed y_initial y_drafted y_draftHas y_draftInitial y_lists y_listLength y_gone y_classOfObject y_slots y_parameters y_generic y_single y_special y_kind y_tokens y_with y_methodAt y_pc y_chosen y_many y_reached y_opsAt y_broken y_arguments y_operands y_operator y_got := by
    intro z0 hz
    refine pk_eq q 10 (fun e => nm_r (nI_1 hh) ⟨pk_in hh 512 hhh, nm_r (by rw [bs_clk (by omega)]) (h10 e)⟩) (fun n10 => pk_eq q 5 (fun e => ?_) (fun n5 => ?_))
    · obtain ⟨hn, ew⟩ := hw e
      rw [ew]
      refine my_slotOf hno hn hv (fun h => br_f (by decide) (nm_r (nI_1 hh) ⟨pk_in hh 512 hhh, nm_r (by rw [bs_clk (by omega)]) (h50 e h)⟩)) (fun k hk e1 e2 => br_t rfl ?_)
      have ei : (4 : Int32) * (y_operands hh - 4294967296).toInt32 + nI n = nI (4 * k + n) := by rw [e1, ob_ix (by omega), bs_ix 4 k n]
      exact ⟨pk_in (4 * k + n) 80 (by omega) ei, nm_r (e' := vp_updL y_slots (4 * k + n) y) (by rw [ei, bs_clk (by omega)]) (nm_r (nI_1 hh) ⟨pk_in hh 512 hhh, nm_r (by rw [bs_clk (by omega)]) (h51 e k hk e1 e2)⟩)⟩
    · have h6 : 6 ≤ q := by omega
      have h8 : q ≤ 8 := by omega
      rcases hz with ⟨rfl, i1, i2⟩ | ⟨rfl, hz⟩
      · have hp := hi1 h6 h8 i1 i2
        unfold cm_int at hp
        refine br_f (by decide) (nm_r (nI_1 hh) (pk_eq q 6 (fun e => ⟨pk_in hh 512 hhh, nm_r (by rw [bs_clk (by omega)]) ?_⟩) (fun e6 => pk_eq q 7 (fun e => ⟨pk_in hh 512 hhh, nm_r (by rw [bs_clk (by omega)]) ?_⟩) (fun e7 => br_c (fun e => ⟨pk_in hh 512 hhh, nm_r (by rw [bs_clk (by omega)]) ?_⟩) (fun e => ⟨pk_in hh 512 hhh, nm_r (by rw [bs_clk (by omega)]) ?_⟩)))))
        · rw [bs_ct e] at hp; exact hp
        · rw [bs_cf e6, bs_ct e] at hp; exact hp
        · rw [bs_cf e6, bs_cf e7, bs_ct ((my_ile i1 i2).mp e)] at hp; exact hp
        · rw [bs_cf e6, bs_cf e7, bs_cf (fun z => e ((my_ile i1 i2).mpr z))] at hp; exact hp
      · have hp := hi0 h6 h8 hz
        refine br_t rfl (nm_r (nI_1 hh) (pk_eq q 6 (fun e => ⟨pk_in hh 512 hhh, nm_e (hp _)⟩) (fun e6 => pk_eq q 7 (fun e => ⟨pk_in hh 512 hhh, nm_e (hp _)⟩) (fun e7 => br_c (fun e => ⟨pk_in hh 512 hhh, nm_e (hp _)⟩) (fun e => ⟨pk_in hh 512 hhh, nm_e (hp _)⟩)))))
  unfold wpY_two
  refine nm_r (nI_pred hh) ⟨pk_in hh 512 hhh (nI_pred hh), nm_r (e' := y_operands hh) (by rw [nI_pred, bs_clk (by omega)]) (br_c (fun i1 => br_c (fun i2 => k41 1 (Or.inl ⟨rfl, i1, i2⟩)) (fun i2 => k41 0 (Or.inr ⟨rfl, fun z => i2 z.2⟩))) (fun i1 => k41 0 (Or.inr ⟨rfl, fun z => i1 z.1⟩)))⟩
theorem my_cp_two {P : Int32 → SY → Prop} {c t g1 : Nat} (hc : c < 400) (ht : t < 136) (hg1 : g1 < 128) (eG : y_got t = nI g1) {nc : Nat} (hpar : rl_par y_parameters) (htk : rl_tk nc (y_kind c) (y_with c)) (eA : rl_ar y_parameters (y_kind c) (y_with c) = g1) {q hh : Nat} {p1 : Int32} (hhh : hh + 1 < 512) (hq : q = 5 ∨ q = 6 ∨ q = 7 ∨ q = 8 ∨ q = 10) (ek : y_kind c = nI q) (hp : ∀ Q : SY → Prop, (∀ u, P 1 u → Q u) → wpY_two Q (y_classes, y_supers, y_objects, y_specials, y_depth, nI t, nI (hh + 1), y_fault, y_steps, y_shownSteps, y_result, y_line, y_lineLength, y_has, y_sealed, y_initial, y_drafted, y_draftHas, y_draftInitial, y_lists, y_listLength, y_gone, y_classOfObject, y_slots, y_parameters, y_generic, y_single, y_special, y_kind, y_tokens, y_with, y_methodAt, y_pc, y_chosen, y_many, y_reached, y_opsAt, y_broken, y_arguments, y_operands, y_operator, y_got) (nI q) (y_with c) (y_operands (hh + 1))) : wpY_complete P (y_classes, y_supers, y_objects, y_specials, y_depth, nI (t + 1), nI (hh + 2), y_fault, y_steps, y_shownSteps, y_result, y_line, y_lineLength, y_has, y_sealed, y_initial, y_drafted, y_draftHas, y_draftInitial, y_lists, y_listLength, y_gone, y_classOfObject, y_slots, y_parameters, y_generic, y_single, y_special, y_kind, y_tokens, y_with, y_methodAt, y_pc, y_chosen, y_many, y_reached, y_opsAt, y_broken, y_arguments, y_operands, y_operator, y_got) (nI c) p1 := by
  unfold wpY_complete
  refine ⟨pk_in c 400 hc, nm_r (e' := y_kind c) (by rw [bs_clk (by omega)]) ⟨pk_in t 136 ht (nI_pred t), nm_r (e' := nI g1) (by rw [nI_pred, bs_clk (by omega), eG]) ?_⟩⟩
  rw [ek]
  refine br_f (fun z => by have := bs_inj (b := 9) (by omega) (by omega) z; omega) (my_operandsOf hc hpar htk ?_)
  rw [eA]
  refine br_t (nI_le (Nat.le_refl _) (by omega)) (nm_r (nI_pred t) ?_)
  refine pk_eq q 3 (fun e => by omega) (fun _ => nm_r (nI_pred (hh + 1)) ⟨pk_in (hh + 1) 512 hhh (nI_pred (hh + 1)), nm_r (e' := y_operands (hh + 1)) (by rw [nI_pred, bs_clk (by omega)]) (pk_eq q 4 (fun e => by omega) (fun _ => pk_eq q 11 (fun e => by omega) (fun _ => ⟨pk_in c 400 hc, ?_⟩)))⟩)
  rw [bs_clk (n := c) (by omega)]
  exact hp _ (fun t h => by obtain ⟨z_classes, z_supers, z_objects, z_specials, z_depth, z_ops, z_held, z_fault, z_steps, z_shownSteps, z_result, z_line, z_lineLength, z_has, z_sealed, z_initial, z_drafted, z_draftHas, z_draftInitial, z_lists, z_listLength, z_gone, z_classOfObject, z_slots, z_parameters, z_generic, z_single, z_special, z_kind, z_tokens, z_with, z_methodAt, z_pc, z_chosen, z_many, z_reached, z_opsAt, z_broken, z_arguments, z_operands, z_operator, z_got⟩ := t; exact h)
/-- the arguments as Y brings them -/
def cm_ag (ag od : Nat → Int64) (d hh p : Nat) : Nat → Int64 := ca_ag ag (3 * d) (od hh) (if 1 < p then od (hh + 1) else 0) (if 2 < p then od (hh + 2) else 0)
theorem cm_ag_k {ag od : Nat → Int64} {d hh p q : Nat} (hp3 : p ≤ 3) (hq : q < p) : cm_ag ag od d hh p (3 * d + q) = od (hh + q) := by
  unfold cm_ag
  rw [ca_ag_k (by omega)]
  have hq3 : q = 0 ∨ q = 1 ∨ q = 2 := by omega
  rcases hq3 with rfl | rfl | rfl
  · rfl
  · exact if_pos hq
  · exact if_pos hq
theorem cm_ag_n {ag od : Nat → Int64} {d hh p j : Nat} (h : j < 3 * d) : cm_ag ag od d hh p j = ag j := ca_ag_n (Or.inl h)
theorem my_cp_call {P : Int32 → SY → Prop} {c t p : Nat} (hc : c < 400) (ht : t < 136) (hp1 : 1 ≤ p) (hp3 : p ≤ 3) (eG : y_got t = nI p) {nc : Nat} (hpar : rl_par y_parameters) (htk : rl_tk nc (y_kind c) (y_with c)) (eA : rl_ar y_parameters (y_kind c) (y_with c) = p) {d hh g : Nat} {p1 : Int32} (hd : d ≤ 8) (hhh : hh + p < 512) (ek : y_kind c = nI 3) (ew : y_with c = nI g) (hp : ∀ Q : SY → Prop, (∀ u, P 0 u → Q u) → wpY_enter Q (y_classes, y_supers, y_objects, y_specials, nI d, nI t, nI hh, y_fault, y_steps, y_shownSteps, y_result, y_line, y_lineLength, y_has, y_sealed, y_initial, y_drafted, y_draftHas, y_draftInitial, y_lists, y_listLength, y_gone, y_classOfObject, y_slots, y_parameters, y_generic, y_single, y_special, y_kind, y_tokens, y_with, y_methodAt, y_pc, y_chosen, y_many, y_reached, y_opsAt, y_broken, cm_ag y_arguments y_operands d hh p, y_operands, y_operator, y_got) (nI g)) : wpY_complete P (y_classes, y_supers, y_objects, y_specials, nI d, nI (t + 1), nI (hh + p), y_fault, y_steps, y_shownSteps, y_result, y_line, y_lineLength, y_has, y_sealed, y_initial, y_drafted, y_draftHas, y_draftInitial, y_lists, y_listLength, y_gone, y_classOfObject, y_slots, y_parameters, y_generic, y_single, y_special, y_kind, y_tokens, y_with, y_methodAt, y_pc, y_chosen, y_many, y_reached, y_opsAt, y_broken, y_arguments, y_operands, y_operator, y_got) (nI c) p1 := by
  have key : ∀ (b3 b2 : Int64), b2 = (if 1 < p then y_operands (hh + 1) else 0) → b3 = (if 2 < p then y_operands (hh + 2) else 0) → wY_complete_129 P (nI c) b3 b2 (y_operands hh) (nI d) y_classes y_supers y_objects y_specials (nI d) (nI t) (nI hh) y_fault y_steps y_shownSteps y_result y_line y_lineLength y_has y_sealed y_initial y_drafted y_draftHas y_draftInitial y_lists y_listLength y_gone y_classOfObject y_slots y_parameters y_generic y_single y_special y_kind y_tokens y_with y_methodAt y_pc y_chosen y_many y_reached y_opsAt y_broken y_arguments y_operands y_operator y_got := by
    intro b3 b2 e2 e3
    subst e2 e3
    refine my_bring hd ⟨pk_in c 400 hc, ?_⟩
    rw [bs_clk (n := c) (by omega), ew]
    exact hp _ (fun t h => by obtain ⟨z_classes, z_supers, z_objects, z_specials, z_depth, z_ops, z_held, z_fault, z_steps, z_shownSteps, z_result, z_line, z_lineLength, z_has, z_sealed, z_initial, z_drafted, z_draftHas, z_draftInitial, z_lists, z_listLength, z_gone, z_classOfObject, z_slots, z_parameters, z_generic, z_single, z_special, z_kind, z_tokens, z_with, z_methodAt, z_pc, z_chosen, z_many, z_reached, z_opsAt, z_broken, z_arguments, z_operands, z_operator, z_got⟩ := t; exact h)
  have k108 : ∀ b2 : Int64, b2 = (if 1 < p then y_operands (hh + 1) else 0) → wY_complete_108 P (nI c) (nI p) b2 (y_operands hh) (nI d) y_classes y_supers y_objects y_specials (nI d) (nI t) (nI hh) y_fault y_steps y_shownSteps y_result y_line y_lineLength y_has y_sealed y_initial y_drafted y_draftHas y_draftInitial y_lists y_listLength y_gone y_classOfObject y_slots y_parameters y_generic y_single y_special y_kind y_tokens y_with y_methodAt y_pc y_chosen y_many y_reached y_opsAt y_broken y_arguments y_operands y_operator y_got := by
    intro b2 e2
    have eh : nI hh + 2 = nI (hh + 2) := by rw [show (2 : Int32) = nI 2 from rfl, nI_add]
    refine pk_le p 2 (fun h => key 0 b2 e2 (if_neg (by omega)).symm) (fun h => ⟨pk_in (hh + 2) 512 (by omega) eh, ?_⟩)
    rw [eh, bs_clk (n := hh + 2) (by omega)]
    exact key _ b2 e2 (if_pos h).symm
  unfold wpY_complete
  refine ⟨pk_in c 400 hc, nm_r (e' := y_kind c) (by rw [bs_clk (by omega)]) ⟨pk_in t 136 ht (nI_pred t), nm_r (e' := nI p) (by rw [nI_pred, bs_clk (by omega), eG]) ?_⟩⟩
  rw [ek]
  refine br_f (by decide) (my_operandsOf hc hpar htk ?_)
  rw [eA]
  refine br_t (nI_le (Nat.le_refl _) (by omega)) (nm_r (nI_pred t) (br_t rfl (nm_r (e' := nI hh) (by rw [pk_sub (by omega), Nat.add_sub_cancel]) ⟨pk_in hh 512 (by omega), ?_⟩)))
  rw [bs_clk (n := hh) (by omega)]
  refine pk_le p 1 (fun h => k108 0 (if_neg (by omega)).symm) (fun h => ⟨pk_in (hh + 1) 512 (by omega) (nI_1 hh), ?_⟩)
  rw [nI_1, bs_clk (n := hh + 1) (by omega)]
  exact k108 _ (if_pos h).symm
end
end
section
/-! the relation of a call at work, and how it moves -/
def cm_LX (TK TV PC MG oK oV oL : Nat → Int32) (wo : Nat → Int64) (fM fP fT fO : Nat → Int32) (fA : Nat → Int64) (K : List cm_Fr) : Prop := cm_lk (cm_vx TK) oK oV oL (fun i => TK i.1) (fun i => TV i.1) (fun i => nI (cm_A PC TK TV i.1 - i.2.1)) wo fM fP fT fO fA (cm_np PC MG) K
def cm_LY (PC MG op go : Nat → Int32) (od : Nat → Int64) (mA rE pC oA : Nat → Int32) (ag : Nat → Int64) (K : List cm_Fr) : Prop := cm_lk cm_al op go go (fun i => nI (i.1 % 16)) (fun i => nI i.2.1) (fun i => nI i.2.1) od mA rE pC oA ag (cm_np PC MG) K
def cm_J (nc x : Nat) (f : cm_Fr) (K : List cm_Fr) (s no : Nat) (x_lineClass : Nat → Int32) (x_lineLength : Nat → Int32) (x_methodGeneric : Nat → Int32) (x_parameterCount : Nat → Int32) (x_specialiser : Nat → Int64) (x_tokenKind : Nat → Int32) (x_tokenValue : Nat → Int32) (x_tokenCount : Nat → Int32) (x_objectClass : Nat → Int32) (x_objectHasSlot : Nat → Int32) (x_objectSlot : Nat → Int64) (x_frameMethod : Nat → Int32) (x_framePlace : Nat → Int32) (x_frameToken : Nat → Int32) (x_frameOperators : Nat → Int32) (x_frameArgument : Nat → Int64) (x_operatorKind : Nat → Int32) (x_operatorValue : Nat → Int32) (x_operatorLeft : Nat → Int32) (x_workedOut : Nat → Int64) (y_slots : Nat → Int64) (y_methodAt : Nat → Int32) (y_reached : Nat → Int32) (y_pc : Nat → Int32) (y_opsAt : Nat → Int32) (y_arguments : Nat → Int64) (y_operator : Nat → Int32) (y_got : Nat → Int32) (y_operands : Nat → Int64) (y_many : Nat → Int32) (y_broken : Nat → Int32) (y_chosen : Nat → Int32) : Prop :=
  rl_obj nc no x_objectClass x_objectHasSlot x_objectSlot y_slots ∧ s ≤ 120 ∧ cm_ko cm_al (f :: K) + cm_kv cm_al (f :: K) + (1 - x) ≤ s ∧ K.length < 8 ∧
  cm_fo x no x_lineClass x_lineLength x_methodGeneric x_parameterCount x_specialiser x_tokenKind x_tokenValue x_tokenCount x_objectClass f ∧
  (∀ f', f' ∈ K → cm_fo 0 no x_lineClass x_lineLength x_methodGeneric x_parameterCount x_specialiser x_tokenKind x_tokenValue x_tokenCount x_objectClass f') ∧
  cm_LX x_tokenKind x_tokenValue x_parameterCount x_methodGeneric x_operatorKind x_operatorValue x_operatorLeft x_workedOut x_frameMethod x_framePlace x_frameToken x_frameOperators x_frameArgument (f :: K) ∧
  cm_LY x_parameterCount x_methodGeneric y_operator y_got y_operands y_methodAt y_reached y_pc y_opsAt y_arguments (f :: K) ∧
  cm_ly x_lineClass x_lineLength x_methodGeneric x_parameterCount x_specialiser x_objectClass y_many y_broken y_chosen (f :: K)
/-- a stack of frames that wait -/
def cm_V (nc : Nat) (K : List cm_Fr) (s no : Nat) (x_lineClass : Nat → Int32) (x_lineLength : Nat → Int32) (x_methodGeneric : Nat → Int32) (x_parameterCount : Nat → Int32) (x_specialiser : Nat → Int64) (x_tokenKind : Nat → Int32) (x_tokenValue : Nat → Int32) (x_tokenCount : Nat → Int32) (x_objectClass : Nat → Int32) (x_objectHasSlot : Nat → Int32) (x_objectSlot : Nat → Int64) (x_frameMethod : Nat → Int32) (x_framePlace : Nat → Int32) (x_frameToken : Nat → Int32) (x_frameOperators : Nat → Int32) (x_frameArgument : Nat → Int64) (x_operatorKind : Nat → Int32) (x_operatorValue : Nat → Int32) (x_operatorLeft : Nat → Int32) (x_workedOut : Nat → Int64) (y_slots : Nat → Int64) (y_methodAt : Nat → Int32) (y_reached : Nat → Int32) (y_pc : Nat → Int32) (y_opsAt : Nat → Int32) (y_arguments : Nat → Int64) (y_operator : Nat → Int32) (y_got : Nat → Int32) (y_operands : Nat → Int64) (y_many : Nat → Int32) (y_broken : Nat → Int32) (y_chosen : Nat → Int32) : Prop :=
  rl_obj nc no x_objectClass x_objectHasSlot x_objectSlot y_slots ∧ s ≤ 120 ∧ cm_ko cm_al K + cm_kv cm_al K ≤ s ∧ K.length ≤ 8 ∧
  (∀ f', f' ∈ K → cm_fo 0 no x_lineClass x_lineLength x_methodGeneric x_parameterCount x_specialiser x_tokenKind x_tokenValue x_tokenCount x_objectClass f') ∧
  cm_LX x_tokenKind x_tokenValue x_parameterCount x_methodGeneric x_operatorKind x_operatorValue x_operatorLeft x_workedOut x_frameMethod x_framePlace x_frameToken x_frameOperators x_frameArgument K ∧
  cm_LY x_parameterCount x_methodGeneric y_operator y_got y_operands y_methodAt y_reached y_pc y_opsAt y_arguments K ∧
  cm_ly x_lineClass x_lineLength x_methodGeneric x_parameterCount x_specialiser x_objectClass y_many y_broken y_chosen K
section
variable {x_classCount : Int32} {x_superCount : Int32} {x_objectCount : Int32} {x_draftSpecialCount : Int32} {x_state : Int32} {x_stepCount : Int32} {x_latestValue : Int64} {x_enterGeneric : Int32} {x_enterPlace : Int32} {x_frameCount : Int32} {x_operatorCount : Int32} {x_valueCount : Int32} {x_lineClass : Nat → Int32} {x_lineLength : Nat → Int32} {x_isSealed : Nat → Int32} {x_classHasSlot : Nat → Int32} {x_classSlot : Nat → Int32} {x_superDraft : Nat → Int32} {x_objectClass : Nat → Int32} {x_objectHasSlot : Nat → Int32} {x_objectSlot : Nat → Int64} {x_parameterCount : Nat → Int32} {x_methodGeneric : Nat → Int32} {x_specialiser : Nat → Int64} {x_tokenKind : Nat → Int32} {x_tokenValue : Nat → Int32} {x_tokenCount : Nat → Int32} {x_argument : Nat → Int64} {x_rank : Nat → Int32} {x_orderPlace : Nat → Int32} {x_frameMethod : Nat → Int32} {x_framePlace : Nat → Int32} {x_frameToken : Nat → Int32} {x_frameOperators : Nat → Int32} {x_frameArgument : Nat → Int64} {x_operatorKind : Nat → Int32} {x_operatorValue : Nat → Int32} {x_operatorLeft : Nat → Int32} {x_workedOut : Nat → Int64} {y_classes : Int32} {y_supers : Int32} {y_objects : Int32} {y_specials : Int32} {y_depth : Int32} {y_ops : Int32} {y_held : Int32} {y_fault : Int32} {y_steps : Int32} {y_shownSteps : Int32} {y_result : Int64} {y_line : Nat → Int32} {y_lineLength : Nat → Int32} {y_has : Nat → Int32} {y_sealed : Nat → Int32} {y_initial : Nat → Int32} {y_drafted : Nat → Int32} {y_draftHas : Nat → Int32} {y_draftInitial : Nat → Int32} {y_lists : Nat → Int32} {y_listLength : Nat → Int32} {y_gone : Nat → Int32} {y_classOfObject : Nat → Int32} {y_slots : Nat → Int64} {y_parameters : Nat → Int32} {y_generic : Nat → Int32} {y_single : Nat → Int32} {y_special : Nat → Int64} {y_kind : Nat → Int32} {y_tokens : Nat → Int32} {y_with : Nat → Int32} {y_methodAt : Nat → Int32} {y_pc : Nat → Int32} {y_chosen : Nat → Int32} {y_many : Nat → Int32} {y_reached : Nat → Int32} {y_opsAt : Nat → Int32} {y_broken : Nat → Int32} {y_arguments : Nat → Int64} {y_operands : Nat → Int64} {y_operator : Nat → Int32} {y_got : Nat → Int32} {nc : Nat}
theorem cm_JV {f : cm_Fr} {K : List cm_Fr} {s no : Nat} (h : cm_J nc (0) (f) (K) (s) (no) x_lineClass x_lineLength x_methodGeneric x_parameterCount x_specialiser x_tokenKind x_tokenValue x_tokenCount x_objectClass x_objectHasSlot x_objectSlot x_frameMethod x_framePlace x_frameToken x_frameOperators x_frameArgument x_operatorKind x_operatorValue x_operatorLeft x_workedOut y_slots y_methodAt y_reached y_pc y_opsAt y_arguments y_operator y_got y_operands y_many y_broken y_chosen) : cm_V nc (f :: K) s no x_lineClass x_lineLength x_methodGeneric x_parameterCount x_specialiser x_tokenKind x_tokenValue x_tokenCount x_objectClass x_objectHasSlot x_objectSlot x_frameMethod x_framePlace x_frameToken x_frameOperators x_frameArgument x_operatorKind x_operatorValue x_operatorLeft x_workedOut y_slots y_methodAt y_reached y_pc y_opsAt y_arguments y_operator y_got y_operands y_many y_broken y_chosen := by
  obtain ⟨h1, h2, h3, h4, h5, h6, h7, h8, h9⟩ := h
  refine ⟨h1, h2, by omega, by show K.length + 1 ≤ 8; omega, fun f' hf' => ?_, h7, h8, h9⟩
  rcases List.mem_cons.mp hf' with e | e
  · rw [e]; exact h5
  · exact h6 f' e
theorem cm_V0 {s no : Nat} (ho : rl_obj nc no x_objectClass x_objectHasSlot x_objectSlot y_slots) (hs : s ≤ 120) : cm_V nc [] s no x_lineClass x_lineLength x_methodGeneric x_parameterCount x_specialiser x_tokenKind x_tokenValue x_tokenCount x_objectClass x_objectHasSlot x_objectSlot x_frameMethod x_framePlace x_frameToken x_frameOperators x_frameArgument x_operatorKind x_operatorValue x_operatorLeft x_workedOut y_slots y_methodAt y_reached y_pc y_opsAt y_arguments y_operator y_got y_operands y_many y_broken y_chosen :=
  ⟨ho, hs, Nat.zero_le _, Nat.zero_le _, fun f' hf' => absurd hf' List.not_mem_nil, trivial, trivial, trivial⟩
/-- the token at pc: its cell, its kind, what it leaves of the body -/
theorem cm_tok {x s no m pl pc : Nat} {ar : Nat → Int64} {its : List cm_It} {K : List cm_Fr} (htok : rl_tok nc x_tokenKind x_tokenValue x_tokenCount) (h : cm_J nc (1) ((m, pl, pc, ar, its)) (K) (s) (no) x_lineClass x_lineLength x_methodGeneric x_parameterCount x_specialiser x_tokenKind x_tokenValue x_tokenCount x_objectClass x_objectHasSlot x_objectSlot x_frameMethod x_framePlace x_frameToken x_frameOperators x_frameArgument x_operatorKind x_operatorValue x_operatorLeft x_workedOut y_slots y_methodAt y_reached y_pc y_opsAt y_arguments y_operator y_got y_operands y_many y_broken y_chosen) : ∃ g p t, m < 24 ∧ g < 5 ∧ 1 ≤ p ∧ p ≤ 3 ∧ t ≤ 16 ∧ x_methodGeneric m = nI g ∧ x_parameterCount g = nI p ∧ x_tokenCount m = nI t ∧ pc < t ∧ (∀ i, i < t → rl_tk nc (x_tokenKind (16 * m + i)) (x_tokenValue (16 * m + i))) ∧ rl_pn (rl_am x_parameterCount x_tokenKind x_tokenValue m) (t - (pc + 1)) (pc + 1) (cm_nd (cm_A x_parameterCount x_tokenKind x_tokenValue) its + cm_A x_parameterCount x_tokenKind x_tokenValue (16 * m + pc)) ∧ (∀ q, q < p → rl_val no (ar q)) := by
  obtain ⟨_, _, _, _, ⟨g, p, t, h1, h2, h3, h4, h5, h6, h7, h8, h9, h10, h11, h12, h13⟩, _⟩ := h
  dsimp only at h1 h6 h8 h9 h10 h11 h12
  have hlt : pc < t := by
    by_cases e : pc < t
    · exact e
    · have e0 : t - pc = 0 := by omega
      rw [e0] at h10
      have e1 : cm_nd (cm_A x_parameterCount x_tokenKind x_tokenValue) its + 1 = 0 := h10
      omega
  have e0 : t - pc = (t - (pc + 1)) + 1 := by omega
  rw [e0] at h10
  obtain ⟨k', ek, hr⟩ := h10
  have e1 : k' = cm_nd (cm_A x_parameterCount x_tokenKind x_tokenValue) its := by omega
  subst e1
  obtain ⟨t', ht', et', htk⟩ := htok m (by omega)
  rw [h8] at et'
  have e2 := bs_inj (by omega) (by omega) et'
  subst e2
  exact ⟨g, p, t, h1, h2, h3, h4, h5, h6, h7, h8, hlt, htk, hr, h12⟩
theorem cm_mv_pc {s no m pl pc : Nat} {ar : Nat → Int64} {its : List cm_It} {K : List cm_Fr} {wo' : Nat → Int64} (htok : rl_tok nc x_tokenKind x_tokenValue x_tokenCount) (h : cm_J nc (1) ((m, pl, pc, ar, its)) (K) (s) (no) x_lineClass x_lineLength x_methodGeneric x_parameterCount x_specialiser x_tokenKind x_tokenValue x_tokenCount x_objectClass x_objectHasSlot x_objectSlot x_frameMethod x_framePlace x_frameToken x_frameOperators x_frameArgument x_operatorKind x_operatorValue x_operatorLeft x_workedOut y_slots y_methodAt y_reached y_pc y_opsAt y_arguments y_operator y_got y_operands y_many y_broken y_chosen) (hs : s < 120) (hA : cm_A x_parameterCount x_tokenKind x_tokenValue (16 * m + pc) = 0) (hwo : ∀ j, j < cm_kv (cm_vx x_tokenKind) ((m, pl, pc, ar, its) :: K) → wo' j = x_workedOut j) : cm_J nc (0) ((m, pl, pc + 1, ar, its)) (K) (s + 1) (no) x_lineClass x_lineLength x_methodGeneric x_parameterCount x_specialiser x_tokenKind x_tokenValue x_tokenCount x_objectClass x_objectHasSlot x_objectSlot x_frameMethod x_framePlace (upd x_frameToken K.length (nI (pc + 1))) x_frameOperators x_frameArgument x_operatorKind x_operatorValue x_operatorLeft wo' y_slots y_methodAt y_reached (upd y_pc K.length (nI (pc + 1))) y_opsAt y_arguments y_operator y_got y_operands y_many y_broken y_chosen := by
  obtain ⟨g, p, t, a1, a2, a3, a4, a5, a6, a7, a8, a9, a10, a11, a12⟩ := cm_tok (x := 1) htok h
  obtain ⟨h1, h2, h3, h4, hf, h6, h7, h8, h9⟩ := h
  obtain ⟨g', p', t', b1, b2, b3, b4, b5, b6, b7, b8, b9, b10, b11, b12, b13⟩ := hf
  obtain ⟨⟨x1, x2, x3, x4, x5, x6⟩, x7⟩ := h7
  obtain ⟨⟨y1, y2, y3, y4, y5, y6⟩, y7⟩ := h8
  rw [hA] at a11
  have e1 : g' = g := by
    have b6' : x_methodGeneric m = nI g' := b6
    rw [a6] at b6'
    exact (bs_inj (by omega) (by omega) b6').symm
  subst e1
  have e2 : p' = p := by
    rw [a7] at b7
    exact (bs_inj (by omega) (by omega) b7).symm
  subst e2
  have e3 : t' = t := by
    have b8' : x_tokenCount m = nI t' := b8
    rw [a8] at b8'
    exact (bs_inj (by omega) (by omega) b8').symm
  subst e3
  have hk : cm_kv (cm_vx x_tokenKind) ((m, pl, pc, ar, its) :: K) = cm_kv (cm_vx x_tokenKind) K + cm_nv (cm_vx x_tokenKind) its := rfl
  rw [hk] at hwo
  refine ⟨h1, by omega, ?_, h4, ⟨g', p', t', b1, b2, b3, b4, b5, b6, b7, b8, by show pc + 1 ≤ t'; omega, a11, b11, b12, b13⟩, h6, ⟨⟨x1, x2, pk_us, x4, x5, cm_li_c _ (fun j _ => ⟨rfl, rfl, rfl⟩) hwo x6⟩, cm_lk_c (cm_np3 _ _) K (fun j hj => ⟨rfl, rfl, pk_un (by omega), rfl⟩) (fun _ _ => rfl) (fun _ _ => ⟨rfl, rfl, rfl⟩) (fun j hj => hwo j (by omega)) x7⟩, ⟨⟨y1, y2, pk_us, y4, y5, y6⟩, cm_lk_c (cm_np3 _ _) K (fun j hj => ⟨rfl, rfl, pk_un (by omega), rfl⟩) (fun _ _ => rfl) (fun _ _ => ⟨rfl, rfl, rfl⟩) (fun j hj => rfl) y7⟩, h9⟩
  have hc : cm_ko cm_al ((m, pl, pc + 1, ar, its) :: K) + cm_kv cm_al ((m, pl, pc + 1, ar, its) :: K) = cm_ko cm_al ((m, pl, pc, ar, its) :: K) + cm_kv cm_al ((m, pl, pc, ar, its) :: K) := rfl
  omega
theorem cm_mv_op {s no m pl pc q : Nat} {ar : Nat → Int64} {its : List cm_It} {K : List cm_Fr} (htok : rl_tok nc x_tokenKind x_tokenValue x_tokenCount) (h : cm_J nc (1) ((m, pl, pc, ar, its)) (K) (s) (no) x_lineClass x_lineLength x_methodGeneric x_parameterCount x_specialiser x_tokenKind x_tokenValue x_tokenCount x_objectClass x_objectHasSlot x_objectSlot x_frameMethod x_framePlace x_frameToken x_frameOperators x_frameArgument x_operatorKind x_operatorValue x_operatorLeft x_workedOut y_slots y_methodAt y_reached y_pc y_opsAt y_arguments y_operator y_got y_operands y_many y_broken y_chosen) (hs : s < 120) (hA : 1 ≤ cm_A x_parameterCount x_tokenKind x_tokenValue (16 * m + pc)) : cm_J nc (1) ((m, pl, pc + 1, ar, (16 * m + pc, 0, 0, fun _ => 0) :: its)) (K) (s + 1) (no) x_lineClass x_lineLength x_methodGeneric x_parameterCount x_specialiser x_tokenKind x_tokenValue x_tokenCount x_objectClass x_objectHasSlot x_objectSlot x_frameMethod x_framePlace (upd x_frameToken K.length (nI (pc + 1))) x_frameOperators x_frameArgument (upd x_operatorKind (cm_ko (cm_vx x_tokenKind) ((m, pl, pc, ar, its) :: K)) (x_tokenKind (16 * m + pc))) (upd x_operatorValue (cm_ko (cm_vx x_tokenKind) ((m, pl, pc, ar, its) :: K)) (x_tokenValue (16 * m + pc))) (upd x_operatorLeft (cm_ko (cm_vx x_tokenKind) ((m, pl, pc, ar, its) :: K)) (nI (cm_A x_parameterCount x_tokenKind x_tokenValue (16 * m + pc)))) x_workedOut y_slots y_methodAt y_reached (upd y_pc K.length (nI (pc + 1))) y_opsAt y_arguments (upd y_operator (cm_ko cm_al ((m, pl, pc, ar, its) :: K)) (nI pc)) (upd y_got (cm_ko cm_al ((m, pl, pc, ar, its) :: K)) 0) y_operands y_many y_broken y_chosen := by
  obtain ⟨g, p, t, a1, a2, a3, a4, a5, a6, a7, a8, a9, a10, a11, a12⟩ := cm_tok (x := 1) htok h
  obtain ⟨h1, h2, h3, h4, hf, h6, h7, h8, h9⟩ := h
  obtain ⟨g', p', t', b1, b2, b3, b4, b5, b6, b7, b8, b9, b10, b11, b12, b13⟩ := hf
  obtain ⟨⟨x1, x2, x3, x4, x5, x6⟩, x7⟩ := h7
  obtain ⟨⟨y1, y2, y3, y4, y5, y6⟩, y7⟩ := h8
  have e3 : t' = t := by
    have b8' : x_tokenCount m = nI t' := b8
    rw [a8] at b8'
    exact (bs_inj (by omega) (by omega) b8').symm
  subst e3
  have hvx : cm_vx x_tokenKind (16 * m + pc, 0, 0, fun _ => 0) = true := cm_vx_t (fun z => absurd z.2 (show ¬ (0 : Nat) = 1 by decide))
  have hkx : cm_ko (cm_vx x_tokenKind) ((m, pl, pc, ar, its) :: K) = cm_ko (cm_vx x_tokenKind) K + cm_ni (cm_vx x_tokenKind) its := rfl
  have hky : cm_ko cm_al ((m, pl, pc, ar, its) :: K) = cm_ko cm_al K + cm_ni cm_al its := rfl
  have hnd : cm_nd (cm_A x_parameterCount x_tokenKind x_tokenValue) ((16 * m + pc, 0, 0, fun _ => 0) :: its) = cm_nd (cm_A x_parameterCount x_tokenKind x_tokenValue) its + (cm_A x_parameterCount x_tokenKind x_tokenValue (16 * m + pc) - 0 - 1) := rfl
  have hkv : cm_kv cm_al ((m, pl, pc, ar, its) :: K) = cm_kv cm_al K + cm_nv cm_al its := rfl
  refine ⟨h1, by omega, ?_, h4, ⟨g', p', t', b1, b2, b3, b4, b5, b6, b7, b8, by show pc + 1 ≤ t'; omega, ?_, fun i hi => ?_, b12, b13⟩, h6, ⟨⟨x1, x2, pk_us, x4, x5, ⟨fun _ => ?_, cm_li_c _ (fun j hj => ?_) (fun _ _ => rfl) x6⟩⟩, cm_lk_c (cm_np3 _ _) K (fun j hj => ⟨rfl, rfl, pk_un (by omega), rfl⟩) (fun _ _ => rfl) (fun j hj => ?_) (fun _ _ => rfl) x7⟩, ⟨⟨y1, y2, pk_us, y4, y5, ⟨fun _ => ?_, cm_li_c _ (fun j hj => ?_) (fun _ _ => rfl) y6⟩⟩, cm_lk_c (cm_np3 _ _) K (fun j hj => ⟨rfl, rfl, pk_un (by omega), rfl⟩) (fun _ _ => rfl) (fun j hj => ?_) (fun _ _ => rfl) y7⟩, h9⟩
  · have c1 : cm_ko cm_al ((m, pl, pc + 1, ar, (16 * m + pc, 0, 0, fun _ => 0) :: its) :: K) = cm_ko cm_al K + (cm_ni cm_al its + 1) := rfl
    have c2 : cm_kv cm_al ((m, pl, pc + 1, ar, (16 * m + pc, 0, 0, fun _ => 0) :: its) :: K) = cm_kv cm_al K + (cm_nv cm_al its + 0) := rfl
    omega
  · dsimp only
    rw [hnd, show cm_nd (cm_A x_parameterCount x_tokenKind x_tokenValue) its + (cm_A x_parameterCount x_tokenKind x_tokenValue (16 * m + pc) - 0 - 1) + 1 = cm_nd (cm_A x_parameterCount x_tokenKind x_tokenValue) its + cm_A x_parameterCount x_tokenKind x_tokenValue (16 * m + pc) by omega]
    exact a11
  · rcases List.mem_cons.mp hi with e | e
    · rw [e]
      exact ⟨pc, a9, rfl, hA, fun _ => ⟨rfl, show (0 : Nat) ≤ 1 by decide⟩, fun _ => rfl, fun q hq => absurd hq (Nat.not_lt_zero q)⟩
    · exact b11 i e
  · rw [hkx, pk_us, pk_us, pk_us]
    exact ⟨rfl, rfl, rfl, fun q hq => absurd hq (Nat.not_lt_zero q)⟩
  · rw [hkx, pk_un (by omega), pk_un (by omega), pk_un (by omega)]
    exact ⟨rfl, rfl, rfl⟩
  · rw [hkx, pk_un (by omega), pk_un (by omega), pk_un (by omega)]
    exact ⟨rfl, rfl, rfl⟩
  · rw [hky, pk_us, pk_us]
    refine ⟨?_, rfl, rfl, fun q hq => absurd hq (Nat.not_lt_zero q)⟩
    show nI pc = nI ((16 * m + pc) % 16)
    rw [show (16 * m + pc) % 16 = pc by omega]
  · rw [hky, pk_un (by omega), pk_un (by omega)]
    exact ⟨rfl, rfl, rfl⟩
  · rw [hky, pk_un (by omega), pk_un (by omega)]
    exact ⟨rfl, rfl, rfl⟩
end
end
section
/-! further moves: an item takes a value, an item goes, frames come and go, objects come -/
section
variable {x_classCount : Int32} {x_superCount : Int32} {x_objectCount : Int32} {x_draftSpecialCount : Int32} {x_state : Int32} {x_stepCount : Int32} {x_latestValue : Int64} {x_enterGeneric : Int32} {x_enterPlace : Int32} {x_frameCount : Int32} {x_operatorCount : Int32} {x_valueCount : Int32} {x_lineClass : Nat → Int32} {x_lineLength : Nat → Int32} {x_isSealed : Nat → Int32} {x_classHasSlot : Nat → Int32} {x_classSlot : Nat → Int32} {x_superDraft : Nat → Int32} {x_objectClass : Nat → Int32} {x_objectHasSlot : Nat → Int32} {x_objectSlot : Nat → Int64} {x_parameterCount : Nat → Int32} {x_methodGeneric : Nat → Int32} {x_specialiser : Nat → Int64} {x_tokenKind : Nat → Int32} {x_tokenValue : Nat → Int32} {x_tokenCount : Nat → Int32} {x_argument : Nat → Int64} {x_rank : Nat → Int32} {x_orderPlace : Nat → Int32} {x_frameMethod : Nat → Int32} {x_framePlace : Nat → Int32} {x_frameToken : Nat → Int32} {x_frameOperators : Nat → Int32} {x_frameArgument : Nat → Int64} {x_operatorKind : Nat → Int32} {x_operatorValue : Nat → Int32} {x_operatorLeft : Nat → Int32} {x_workedOut : Nat → Int64} {y_classes : Int32} {y_supers : Int32} {y_objects : Int32} {y_specials : Int32} {y_depth : Int32} {y_ops : Int32} {y_held : Int32} {y_fault : Int32} {y_steps : Int32} {y_shownSteps : Int32} {y_result : Int64} {y_line : Nat → Int32} {y_lineLength : Nat → Int32} {y_has : Nat → Int32} {y_sealed : Nat → Int32} {y_initial : Nat → Int32} {y_drafted : Nat → Int32} {y_draftHas : Nat → Int32} {y_draftInitial : Nat → Int32} {y_lists : Nat → Int32} {y_listLength : Nat → Int32} {y_gone : Nat → Int32} {y_classOfObject : Nat → Int32} {y_slots : Nat → Int64} {y_parameters : Nat → Int32} {y_generic : Nat → Int32} {y_single : Nat → Int32} {y_special : Nat → Int64} {y_kind : Nat → Int32} {y_tokens : Nat → Int32} {y_with : Nat → Int32} {y_methodAt : Nat → Int32} {y_pc : Nat → Int32} {y_chosen : Nat → Int32} {y_many : Nat → Int32} {y_reached : Nat → Int32} {y_opsAt : Nat → Int32} {y_broken : Nat → Int32} {y_arguments : Nat → Int64} {y_operands : Nat → Int64} {y_operator : Nat → Int32} {y_got : Nat → Int32} {nc : Nat}
theorem cm_kl_1 {A : Nat → Nat} {f : cm_Fr} {K : List cm_Fr} : cm_kl A (f :: K) = cm_kl A K + cm_lf A f.2.2.2.2 := rfl
/-- what holds of the last item -/
theorem cm_top {x s no m pl pc c g n : Nat} {z : Nat → Int64} {ar : Nat → Int64} {r : List cm_It} {K : List cm_Fr} (htok : rl_tok nc x_tokenKind x_tokenValue x_tokenCount) (h : cm_J nc (x) ((m, pl, pc, ar, (c, g, n, z) :: r)) (K) (s) (no) x_lineClass x_lineLength x_methodGeneric x_parameterCount x_specialiser x_tokenKind x_tokenValue x_tokenCount x_objectClass x_objectHasSlot x_objectSlot x_frameMethod x_framePlace x_frameToken x_frameOperators x_frameArgument x_operatorKind x_operatorValue x_operatorLeft x_workedOut y_slots y_methodAt y_reached y_pc y_opsAt y_arguments y_operator y_got y_operands y_many y_broken y_chosen) : ∃ gg p t j, m < 24 ∧ gg < 5 ∧ 1 ≤ p ∧ p ≤ 3 ∧ t ≤ 16 ∧ x_methodGeneric m = nI gg ∧ x_parameterCount gg = nI p ∧ x_tokenCount m = nI t ∧ pc ≤ t ∧ j < t ∧ c = 16 * m + j ∧ (∀ i, i < t → rl_tk nc (x_tokenKind (16 * m + i)) (x_tokenValue (16 * m + i))) ∧ g < (cm_A x_parameterCount x_tokenKind x_tokenValue) c ∧ (x_tokenKind c = 9 → n = 0 ∧ g ≤ 1) ∧ (¬ x_tokenKind c = 9 → n = g) ∧ (∀ q, q < n → rl_val no (z q)) ∧ rl_pn (rl_am x_parameterCount x_tokenKind x_tokenValue m) (t - pc) pc (cm_nd (cm_A x_parameterCount x_tokenKind x_tokenValue) r + ((cm_A x_parameterCount x_tokenKind x_tokenValue) c - g - 1) + x) ∧ (∀ q, q < p → rl_val no (ar q)) := by
  obtain ⟨_, _, _, _, ⟨g', p', t', b1, b2, b3, b4, b5, b6, b7, b8, b9, b10, b11, b12, b13⟩, _⟩ := h
  obtain ⟨jj, i1, i2, i3, i4, i5, i6⟩ := b11 _ List.mem_cons_self
  obtain ⟨t2, ht2, et2, htk⟩ := htok m (by have : m < 24 := b1; omega)
  have b8' : x_tokenCount m = nI t' := b8
  rw [b8'] at et2
  have e2 := bs_inj (by omega) (by omega) et2
  subst e2
  exact ⟨g', p', t', jj, b1, b2, b3, b4, b5, b6, b7, b8, b9, i1, i2, htk, i3, i4, i5, i6, b10, b12⟩
theorem cm_mv_more {s no m pl pc c g n : Nat} {z : Nat → Int64} {v : Int64} {ar : Nat → Int64} {r : List cm_It} {K : List cm_Fr} {od' : Nat → Int64} (h : cm_J nc (0) ((m, pl, pc, ar, (c, g, n, z) :: r)) (K) (s) (no) x_lineClass x_lineLength x_methodGeneric x_parameterCount x_specialiser x_tokenKind x_tokenValue x_tokenCount x_objectClass x_objectHasSlot x_objectSlot x_frameMethod x_framePlace x_frameToken x_frameOperators x_frameArgument x_operatorKind x_operatorValue x_operatorLeft x_workedOut y_slots y_methodAt y_reached y_pc y_opsAt y_arguments y_operator y_got y_operands y_many y_broken y_chosen) (h9 : ¬ x_tokenKind c = 9) (h10 : ¬ x_tokenKind c = 10) (hg : g + 1 < (cm_A x_parameterCount x_tokenKind x_tokenValue) c) (hv : rl_val no v) (hwo : x_workedOut (cm_kv (cm_vx x_tokenKind) ((m, pl, pc, ar, (c, g, n, z) :: r) :: K)) = v) (hod : od' (cm_kv cm_al ((m, pl, pc, ar, (c, g, n, z) :: r) :: K)) = v) (hod2 : ∀ j, j < cm_kv cm_al ((m, pl, pc, ar, (c, g, n, z) :: r) :: K) → od' j = y_operands j) : cm_J nc (1) ((m, pl, pc, ar, (c, g + 1, n + 1, fun q => if q = n then v else z q) :: r)) (K) (s) (no) x_lineClass x_lineLength x_methodGeneric x_parameterCount x_specialiser x_tokenKind x_tokenValue x_tokenCount x_objectClass x_objectHasSlot x_objectSlot x_frameMethod x_framePlace x_frameToken x_frameOperators x_frameArgument x_operatorKind x_operatorValue (upd x_operatorLeft (cm_ko (cm_vx x_tokenKind) K + cm_ni (cm_vx x_tokenKind) r) (nI ((cm_A x_parameterCount x_tokenKind x_tokenValue) c - (g + 1)))) x_workedOut y_slots y_methodAt y_reached y_pc y_opsAt y_arguments y_operator (upd y_got (cm_ko cm_al K + cm_ni cm_al r) (nI (g + 1))) od' y_many y_broken y_chosen := by
  obtain ⟨h1, h2, h3, h4, hf, h6, h7, h8, hly⟩ := h
  obtain ⟨g', p', t', b1, b2, b3, b4, b5, b6, b7, b8, b9, b10, b11, b12, b13⟩ := hf
  obtain ⟨⟨x1, x2, x3, x4, x5, ⟨x6, x6'⟩⟩, x7⟩ := h7
  obtain ⟨⟨y1, y2, y3, y4, y5, ⟨y6, y6'⟩⟩, y7⟩ := h8
  obtain ⟨jj, i1, i2, i3, i4, i5, i6⟩ := b11 _ List.mem_cons_self
  have hvis : ∀ i : cm_It, i.1 = c → (cm_vx x_tokenKind) i = true := fun i e => cm_vx_t (fun zz => h10 (by rw [← e]; exact zz.1))
  have hv0 := hvis (c, g, n, z) rfl
  have hv1 := hvis (c, g + 1, n + 1, fun q => if q = n then v else z q) rfl
  have eng : n = g := i5 h9
  have hkvx : cm_kv (cm_vx x_tokenKind) ((m, pl, pc, ar, (c, g, n, z) :: r) :: K) = cm_kv (cm_vx x_tokenKind) K + (cm_nv (cm_vx x_tokenKind) r + n) := by
    show cm_kv (cm_vx x_tokenKind) K + cm_nv (cm_vx x_tokenKind) ((c, g, n, z) :: r) = _
    rw [cm_nv_t hv0]
  have hkvy : cm_kv cm_al ((m, pl, pc, ar, (c, g, n, z) :: r) :: K) = cm_kv cm_al K + (cm_nv cm_al r + n) := rfl
  rw [hkvx] at hwo
  rw [hkvy] at hod hod2
  have k1 : cm_ko cm_al ((m, pl, pc, ar, (c, g, n, z) :: r) :: K) = cm_ko cm_al K + (cm_ni cm_al r + 1) := rfl
  obtain ⟨xa, xb, xc, xd⟩ := x6 hv0
  obtain ⟨ya, yb, yc, yd⟩ := y6 rfl
  dsimp only at xa xb xc xd ya yb yc yd
  refine ⟨h1, h2, ?_, h4, ⟨g', p', t', b1, b2, b3, b4, b5, b6, b7, b8, b9, ?_, fun i hi => ?_, b12, b13⟩, h6, ⟨⟨x1, x2, x3, x4, x5, ⟨fun _ => ⟨xa, xb, pk_us, fun q hq => ?_⟩, cm_li_c _ (fun j hj => ⟨rfl, rfl, pk_un (by omega)⟩) (fun _ _ => rfl) x6'⟩⟩, cm_lk_c (cm_np3 _ _) K (fun j hj => ⟨rfl, rfl, rfl, rfl⟩) (fun _ _ => rfl) (fun j hj => ⟨rfl, rfl, pk_un (by omega)⟩) (fun _ _ => rfl) x7⟩, ⟨⟨y1, y2, y3, y4, y5, ⟨fun _ => ⟨ya, pk_us, pk_us, fun q hq => ?_⟩, cm_li_c _ (fun j hj => ⟨rfl, pk_un (by omega), pk_un (by omega)⟩) (fun j hj => hod2 j (by omega)) y6'⟩⟩, cm_lk_c (cm_np3 _ _) K (fun j hj => ⟨rfl, rfl, rfl, rfl⟩) (fun _ _ => rfl) (fun j hj => ⟨rfl, pk_un (by omega), pk_un (by omega)⟩) (fun j hj => hod2 j (by omega)) y7⟩, hly⟩
  · have c1 : cm_ko cm_al ((m, pl, pc, ar, (c, g + 1, n + 1, fun q => if q = n then v else z q) :: r) :: K) = cm_ko cm_al K + (cm_ni cm_al r + 1) := rfl
    have c2 : cm_kv cm_al ((m, pl, pc, ar, (c, g + 1, n + 1, fun q => if q = n then v else z q) :: r) :: K) = cm_kv cm_al K + (cm_nv cm_al r + (n + 1)) := rfl
    omega
  · have e1 : cm_nd (cm_A x_parameterCount x_tokenKind x_tokenValue) ((c, g + 1, n + 1, fun q => if q = n then v else z q) :: r) = cm_nd (cm_A x_parameterCount x_tokenKind x_tokenValue) r + ((cm_A x_parameterCount x_tokenKind x_tokenValue) c - (g + 1) - 1) := rfl
    have e2 : cm_nd (cm_A x_parameterCount x_tokenKind x_tokenValue) ((c, g, n, z) :: r) = cm_nd (cm_A x_parameterCount x_tokenKind x_tokenValue) r + ((cm_A x_parameterCount x_tokenKind x_tokenValue) c - g - 1) := rfl
    dsimp only at b10 ⊢
    rw [e2] at b10
    rw [e1, show cm_nd (cm_A x_parameterCount x_tokenKind x_tokenValue) r + ((cm_A x_parameterCount x_tokenKind x_tokenValue) c - (g + 1) - 1) + 1 = cm_nd (cm_A x_parameterCount x_tokenKind x_tokenValue) r + ((cm_A x_parameterCount x_tokenKind x_tokenValue) c - g - 1) + 0 by omega]
    exact b10
  · rcases List.mem_cons.mp hi with e | e
    · rw [e]
      refine ⟨jj, i1, i2, hg, fun zz => absurd zz h9, fun _ => by show n + 1 = g + 1; omega, fun q hq => ?_⟩
      show rl_val no (if q = n then v else z q)
      by_cases eq : q = n
      · rw [if_pos eq]; exact hv
      · rw [if_neg eq]
        have hq' : q < n + 1 := hq
        exact i6 q (by show q < n; omega)
    · exact b11 i (List.mem_cons_of_mem _ e)
  · show x_workedOut (cm_kv (cm_vx x_tokenKind) K + cm_nv (cm_vx x_tokenKind) r + q) = if q = n then v else z q
    have hq' : q < n + 1 := hq
    by_cases eq : q = n
    · rw [if_pos eq, eq, Nat.add_assoc]; exact hwo
    · rw [if_neg eq]; exact xd q (by omega)
  · show od' (cm_kv cm_al K + cm_nv cm_al r + q) = if q = n then v else z q
    have hq' : q < n + 1 := hq
    by_cases eq : q = n
    · rw [if_pos eq, eq, Nat.add_assoc]; exact hod
    · rw [if_neg eq, hod2 _ (by omega)]; exact yd q (by omega)
theorem cm_mv_seq {s no m pl pc c : Nat} {z : Nat → Int64} {v : Int64} {ar : Nat → Int64} {r : List cm_It} {K : List cm_Fr} {od' : Nat → Int64} {oL' : Nat → Int32} (h : cm_J nc (0) ((m, pl, pc, ar, (c, 0, 0, z) :: r)) (K) (s) (no) x_lineClass x_lineLength x_methodGeneric x_parameterCount x_specialiser x_tokenKind x_tokenValue x_tokenCount x_objectClass x_objectHasSlot x_objectSlot x_frameMethod x_framePlace x_frameToken x_frameOperators x_frameArgument x_operatorKind x_operatorValue x_operatorLeft x_workedOut y_slots y_methodAt y_reached y_pc y_opsAt y_arguments y_operator y_got y_operands y_many y_broken y_chosen) (h10 : x_tokenKind c = 10) (hA : (cm_A x_parameterCount x_tokenKind x_tokenValue) c = 2) (hv : rl_val no v) (hod : od' (cm_kv cm_al ((m, pl, pc, ar, (c, 0, 0, z) :: r) :: K)) = v) (hod2 : ∀ j, j < cm_kv cm_al ((m, pl, pc, ar, (c, 0, 0, z) :: r) :: K) → od' j = y_operands j) (hoL : ∀ j, j < cm_ko (cm_vx x_tokenKind) K + cm_ni (cm_vx x_tokenKind) r → oL' j = x_operatorLeft j) : cm_J nc (1) ((m, pl, pc, ar, (c, 1, 1, fun _ => v) :: r)) (K) (s) (no) x_lineClass x_lineLength x_methodGeneric x_parameterCount x_specialiser x_tokenKind x_tokenValue x_tokenCount x_objectClass x_objectHasSlot x_objectSlot x_frameMethod x_framePlace x_frameToken x_frameOperators x_frameArgument x_operatorKind x_operatorValue oL' x_workedOut y_slots y_methodAt y_reached y_pc y_opsAt y_arguments y_operator (upd y_got (cm_ko cm_al K + cm_ni cm_al r) (nI 1)) od' y_many y_broken y_chosen := by
  obtain ⟨h1, h2, h3, h4, hf, h6, h7, h8, hly⟩ := h
  obtain ⟨g', p', t', b1, b2, b3, b4, b5, b6, b7, b8, b9, b10, b11, b12, b13⟩ := hf
  obtain ⟨⟨x1, x2, x3, x4, x5, ⟨x6, x6'⟩⟩, x7⟩ := h7
  obtain ⟨⟨y1, y2, y3, y4, y5, ⟨y6, y6'⟩⟩, y7⟩ := h8
  obtain ⟨jj, i1, i2, i3, i4, i5, i6⟩ := b11 _ List.mem_cons_self
  have hv1 : ¬ (cm_vx x_tokenKind) (c, 1, 1, fun _ => v) = true := cm_vx_f ⟨h10, rfl⟩
  have hkvy : cm_kv cm_al ((m, pl, pc, ar, (c, 0, 0, z) :: r) :: K) = cm_kv cm_al K + (cm_nv cm_al r + 0) := rfl
  rw [hkvy] at hod hod2
  have k1 : cm_ko cm_al ((m, pl, pc, ar, (c, 0, 0, z) :: r) :: K) = cm_ko cm_al K + (cm_ni cm_al r + 1) := rfl
  obtain ⟨ya, yb, yc, yd⟩ := y6 rfl
  dsimp only at ya yb yc yd
  refine ⟨h1, h2, ?_, h4, ⟨g', p', t', b1, b2, b3, b4, b5, b6, b7, b8, b9, ?_, fun i hi => ?_, b12, b13⟩, h6, ⟨⟨x1, x2, x3, x4, x5, ⟨fun zz => absurd zz hv1, cm_li_c _ (fun j hj => ⟨rfl, rfl, hoL j hj⟩) (fun _ _ => rfl) x6'⟩⟩, cm_lk_c (cm_np3 _ _) K (fun j hj => ⟨rfl, rfl, rfl, rfl⟩) (fun _ _ => rfl) (fun j hj => ⟨rfl, rfl, hoL j (by omega)⟩) (fun _ _ => rfl) x7⟩, ⟨⟨y1, y2, y3, y4, y5, ⟨fun _ => ⟨ya, pk_us, pk_us, fun q hq => ?_⟩, cm_li_c _ (fun j hj => ⟨rfl, pk_un (by omega), pk_un (by omega)⟩) (fun j hj => hod2 j (by omega)) y6'⟩⟩, cm_lk_c (cm_np3 _ _) K (fun j hj => ⟨rfl, rfl, rfl, rfl⟩) (fun _ _ => rfl) (fun j hj => ⟨rfl, pk_un (by omega), pk_un (by omega)⟩) (fun j hj => hod2 j (by omega)) y7⟩, hly⟩
  · have c1 : cm_ko cm_al ((m, pl, pc, ar, (c, 1, 1, fun _ => v) :: r) :: K) = cm_ko cm_al K + (cm_ni cm_al r + 1) := rfl
    have c2 : cm_kv cm_al ((m, pl, pc, ar, (c, 1, 1, fun _ => v) :: r) :: K) = cm_kv cm_al K + (cm_nv cm_al r + 1) := rfl
    omega
  · have e1 : cm_nd (cm_A x_parameterCount x_tokenKind x_tokenValue) ((c, 1, 1, fun _ => v) :: r) = cm_nd (cm_A x_parameterCount x_tokenKind x_tokenValue) r + ((cm_A x_parameterCount x_tokenKind x_tokenValue) c - 1 - 1) := rfl
    have e2 : cm_nd (cm_A x_parameterCount x_tokenKind x_tokenValue) ((c, 0, 0, z) :: r) = cm_nd (cm_A x_parameterCount x_tokenKind x_tokenValue) r + ((cm_A x_parameterCount x_tokenKind x_tokenValue) c - 0 - 1) := rfl
    dsimp only at b10 ⊢
    rw [e2] at b10
    rw [e1, show cm_nd (cm_A x_parameterCount x_tokenKind x_tokenValue) r + ((cm_A x_parameterCount x_tokenKind x_tokenValue) c - 1 - 1) + 1 = cm_nd (cm_A x_parameterCount x_tokenKind x_tokenValue) r + ((cm_A x_parameterCount x_tokenKind x_tokenValue) c - 0 - 1) + 0 by omega]
    exact b10
  · rcases List.mem_cons.mp hi with e | e
    · rw [e]
      refine ⟨jj, i1, i2, by show 1 < (cm_A x_parameterCount x_tokenKind x_tokenValue) c; omega, fun zz => ?_, fun _ => rfl, fun q hq => hv⟩
      have zz' : x_tokenKind c = 9 := zz
      rw [h10] at zz'
      exact absurd zz' (by decide)
    · exact b11 i (List.mem_cons_of_mem _ e)
  · show od' (cm_kv cm_al K + cm_nv cm_al r + q) = v
    have hq' : q < 1 := hq
    have eq : q = 0 := by omega
    rw [eq]; exact hod
theorem cm_mv_if {s no m pl pc c : Nat} {z : Nat → Int64} {ar : Nat → Int64} {r : List cm_It} {K : List cm_Fr} {od' : Nat → Int64} (h : cm_J nc (0) ((m, pl, pc, ar, (c, 0, 0, z) :: r)) (K) (s) (no) x_lineClass x_lineLength x_methodGeneric x_parameterCount x_specialiser x_tokenKind x_tokenValue x_tokenCount x_objectClass x_objectHasSlot x_objectSlot x_frameMethod x_framePlace x_frameToken x_frameOperators x_frameArgument x_operatorKind x_operatorValue x_operatorLeft x_workedOut y_slots y_methodAt y_reached y_pc y_opsAt y_arguments y_operator y_got y_operands y_many y_broken y_chosen) (h9 : x_tokenKind c = 9) (hA : (cm_A x_parameterCount x_tokenKind x_tokenValue) c = 3) (hod2 : ∀ j, j < cm_kv cm_al K + cm_nv cm_al r → od' j = y_operands j) : cm_J nc (1) ((m, pl, pc, ar, (c, 1, 0, z) :: r)) (K) (s) (no) x_lineClass x_lineLength x_methodGeneric x_parameterCount x_specialiser x_tokenKind x_tokenValue x_tokenCount x_objectClass x_objectHasSlot x_objectSlot x_frameMethod x_framePlace x_frameToken x_frameOperators x_frameArgument x_operatorKind x_operatorValue (upd x_operatorLeft (cm_ko (cm_vx x_tokenKind) K + cm_ni (cm_vx x_tokenKind) r) (nI 2)) x_workedOut y_slots y_methodAt y_reached y_pc y_opsAt y_arguments y_operator (upd y_got (cm_ko cm_al K + cm_ni cm_al r) (nI 1)) od' y_many y_broken y_chosen := by
  obtain ⟨h1, h2, h3, h4, hf, h6, h7, h8, hly⟩ := h
  obtain ⟨g', p', t', b1, b2, b3, b4, b5, b6, b7, b8, b9, b10, b11, b12, b13⟩ := hf
  obtain ⟨⟨x1, x2, x3, x4, x5, ⟨x6, x6'⟩⟩, x7⟩ := h7
  obtain ⟨⟨y1, y2, y3, y4, y5, ⟨y6, y6'⟩⟩, y7⟩ := h8
  obtain ⟨jj, i1, i2, i3, i4, i5, i6⟩ := b11 _ List.mem_cons_self
  have hvis : ∀ i : cm_It, i.1 = c → (cm_vx x_tokenKind) i = true := fun i e => cm_vx_t (fun zz => by have z1 := zz.1; rw [e, h9] at z1; exact absurd z1 (by decide))
  have hv0 := hvis (c, 0, 0, z) rfl
  have k1 : cm_ko cm_al ((m, pl, pc, ar, (c, 0, 0, z) :: r) :: K) = cm_ko cm_al K + (cm_ni cm_al r + 1) := rfl
  have k2 : cm_kv cm_al ((m, pl, pc, ar, (c, 0, 0, z) :: r) :: K) = cm_kv cm_al K + (cm_nv cm_al r + 0) := rfl
  obtain ⟨xa, xb, xc, xd⟩ := x6 hv0
  obtain ⟨ya, yb, yc, yd⟩ := y6 rfl
  dsimp only at xa xb xc xd ya yb yc yd
  refine ⟨h1, h2, ?_, h4, ⟨g', p', t', b1, b2, b3, b4, b5, b6, b7, b8, b9, ?_, fun i hi => ?_, b12, b13⟩, h6, ⟨⟨x1, x2, x3, x4, x5, ⟨fun _ => ⟨xa, xb, ?_, fun q hq => absurd hq (Nat.not_lt_zero q)⟩, cm_li_c _ (fun j hj => ⟨rfl, rfl, pk_un (by omega)⟩) (fun _ _ => rfl) x6'⟩⟩, cm_lk_c (cm_np3 _ _) K (fun j hj => ⟨rfl, rfl, rfl, rfl⟩) (fun _ _ => rfl) (fun j hj => ⟨rfl, rfl, pk_un (by omega)⟩) (fun _ _ => rfl) x7⟩, ⟨⟨y1, y2, y3, y4, y5, ⟨fun _ => ⟨ya, pk_us, pk_us, fun q hq => absurd hq (Nat.not_lt_zero q)⟩, cm_li_c _ (fun j hj => ⟨rfl, pk_un (by omega), pk_un (by omega)⟩) (fun j hj => hod2 j (by omega)) y6'⟩⟩, cm_lk_c (cm_np3 _ _) K (fun j hj => ⟨rfl, rfl, rfl, rfl⟩) (fun _ _ => rfl) (fun j hj => ⟨rfl, pk_un (by omega), pk_un (by omega)⟩) (fun j hj => hod2 j (by omega)) y7⟩, hly⟩
  · have c1 : cm_ko cm_al ((m, pl, pc, ar, (c, 1, 0, z) :: r) :: K) = cm_ko cm_al K + (cm_ni cm_al r + 1) := rfl
    have c2 : cm_kv cm_al ((m, pl, pc, ar, (c, 1, 0, z) :: r) :: K) = cm_kv cm_al K + (cm_nv cm_al r + 0) := rfl
    omega
  · have e1 : cm_nd (cm_A x_parameterCount x_tokenKind x_tokenValue) ((c, 1, 0, z) :: r) = cm_nd (cm_A x_parameterCount x_tokenKind x_tokenValue) r + ((cm_A x_parameterCount x_tokenKind x_tokenValue) c - 1 - 1) := rfl
    have e2 : cm_nd (cm_A x_parameterCount x_tokenKind x_tokenValue) ((c, 0, 0, z) :: r) = cm_nd (cm_A x_parameterCount x_tokenKind x_tokenValue) r + ((cm_A x_parameterCount x_tokenKind x_tokenValue) c - 0 - 1) := rfl
    dsimp only at b10 ⊢
    rw [e2] at b10
    rw [e1, show cm_nd (cm_A x_parameterCount x_tokenKind x_tokenValue) r + ((cm_A x_parameterCount x_tokenKind x_tokenValue) c - 1 - 1) + 1 = cm_nd (cm_A x_parameterCount x_tokenKind x_tokenValue) r + ((cm_A x_parameterCount x_tokenKind x_tokenValue) c - 0 - 1) + 0 by omega]
    exact b10
  · rcases List.mem_cons.mp hi with e | e
    · rw [e]
      exact ⟨jj, i1, i2, by show 1 < (cm_A x_parameterCount x_tokenKind x_tokenValue) c; omega, fun _ => ⟨rfl, Nat.le_refl 1⟩, fun zz => absurd h9 zz, fun q hq => absurd hq (Nat.not_lt_zero q)⟩
    · exact b11 i (List.mem_cons_of_mem _ e)
  · show upd x_operatorLeft _ (nI 2) _ = nI ((cm_A x_parameterCount x_tokenKind x_tokenValue) c - 1)
    rw [pk_us, hA]
theorem cm_mv_pop {x s no m pl pc pc' c g n t : Nat} {z : Nat → Int64} {ar : Nat → Int64} {r : List cm_It} {K : List cm_Fr} {od' wo' : Nat → Int64} {oL' go' fT' pC' : Nat → Int32} (h : cm_J nc (0) ((m, pl, pc, ar, (c, g, n, z) :: r)) (K) (s) (no) x_lineClass x_lineLength x_methodGeneric x_parameterCount x_specialiser x_tokenKind x_tokenValue x_tokenCount x_objectClass x_objectHasSlot x_objectSlot x_frameMethod x_framePlace x_frameToken x_frameOperators x_frameArgument x_operatorKind x_operatorValue x_operatorLeft x_workedOut y_slots y_methodAt y_reached y_pc y_opsAt y_arguments y_operator y_got y_operands y_many y_broken y_chosen) (hx : x ≤ 1) (et : x_tokenCount m = nI t) (ht : t ≤ 16) (hpc : pc' ≤ t) (hpn : rl_pn (rl_am x_parameterCount x_tokenKind x_tokenValue m) (t - pc') pc' (cm_nd (cm_A x_parameterCount x_tokenKind x_tokenValue) r + x)) (hfT : fT' K.length = nI pc') (hpC : pC' K.length = nI pc') (hfT2 : ∀ j, j < K.length → fT' j = x_frameToken j) (hpC2 : ∀ j, j < K.length → pC' j = y_pc j) (hod2 : ∀ j, j < cm_kv cm_al K + cm_nv cm_al r → od' j = y_operands j) (hwo2 : ∀ j, j < cm_kv (cm_vx x_tokenKind) K + cm_nv (cm_vx x_tokenKind) r → wo' j = x_workedOut j) (hoL : ∀ j, j < cm_ko (cm_vx x_tokenKind) K + cm_ni (cm_vx x_tokenKind) r → oL' j = x_operatorLeft j) (hgo : ∀ j, j < cm_ko cm_al K + cm_ni cm_al r → go' j = y_got j) : cm_J nc (x) ((m, pl, pc', ar, r)) (K) (s) (no) x_lineClass x_lineLength x_methodGeneric x_parameterCount x_specialiser x_tokenKind x_tokenValue x_tokenCount x_objectClass x_objectHasSlot x_objectSlot x_frameMethod x_framePlace fT' x_frameOperators x_frameArgument x_operatorKind x_operatorValue oL' wo' y_slots y_methodAt y_reached pC' y_opsAt y_arguments y_operator go' od' y_many y_broken y_chosen := by
  obtain ⟨h1, h2, h3, h4, hf, h6, h7, h8, h9⟩ := h
  obtain ⟨g', p', t', b1, b2, b3, b4, b5, b6, b7, b8, b9, b10, b11, b12, b13⟩ := hf
  obtain ⟨⟨x1, x2, x3, x4, x5, ⟨x6, x6'⟩⟩, x7⟩ := h7
  obtain ⟨⟨y1, y2, y3, y4, y5, ⟨y6, y6'⟩⟩, y7⟩ := h8
  have k1 : cm_ko cm_al ((m, pl, pc, ar, (c, g, n, z) :: r) :: K) = cm_ko cm_al K + (cm_ni cm_al r + 1) := rfl
  have k2 : cm_kv cm_al ((m, pl, pc, ar, (c, g, n, z) :: r) :: K) = cm_kv cm_al K + (cm_nv cm_al r + n) := rfl
  have b8' : x_tokenCount m = nI t' := b8
  rw [et] at b8'
  have e2 := bs_inj (by omega) (by omega) b8'
  subst e2
  refine ⟨h1, h2, ?_, h4, ⟨g', p', t, b1, b2, b3, b4, b5, b6, b7, et, hpc, hpn, fun i hi => b11 i (List.mem_cons_of_mem _ hi), b12, b13⟩, h6, ⟨⟨x1, x2, hfT, x4, x5, cm_li_c _ (fun j hj => ⟨rfl, rfl, hoL j hj⟩) hwo2 x6'⟩, cm_lk_c (cm_np3 _ _) K (fun j hj => ⟨rfl, rfl, hfT2 j hj, rfl⟩) (fun _ _ => rfl) (fun j hj => ⟨rfl, rfl, hoL j (by omega)⟩) (fun j hj => hwo2 j (by omega)) x7⟩, ⟨⟨y1, y2, hpC, y4, y5, cm_li_c _ (fun j hj => ⟨rfl, hgo j hj, hgo j hj⟩) hod2 y6'⟩, cm_lk_c (cm_np3 _ _) K (fun j hj => ⟨rfl, rfl, hpC2 j hj, rfl⟩) (fun _ _ => rfl) (fun j hj => ⟨rfl, hgo j (by omega), hgo j (by omega)⟩) (fun j hj => hod2 j (by omega)) y7⟩, h9⟩
  have c1 : cm_ko cm_al ((m, pl, pc', ar, r) :: K) = cm_ko cm_al K + cm_ni cm_al r := rfl
  have c2 : cm_kv cm_al ((m, pl, pc', ar, r) :: K) = cm_kv cm_al K + cm_nv cm_al r := rfl
  omega
theorem cm_mv_leave {s no m pl pc : Nat} {ar : Nat → Int64} {f : cm_Fr} {K : List cm_Fr} (h : cm_J nc (0) ((m, pl, pc, ar, [])) (f :: K) (s) (no) x_lineClass x_lineLength x_methodGeneric x_parameterCount x_specialiser x_tokenKind x_tokenValue x_tokenCount x_objectClass x_objectHasSlot x_objectSlot x_frameMethod x_framePlace x_frameToken x_frameOperators x_frameArgument x_operatorKind x_operatorValue x_operatorLeft x_workedOut y_slots y_methodAt y_reached y_pc y_opsAt y_arguments y_operator y_got y_operands y_many y_broken y_chosen) : cm_J nc (0) (f) (K) (s) (no) x_lineClass x_lineLength x_methodGeneric x_parameterCount x_specialiser x_tokenKind x_tokenValue x_tokenCount x_objectClass x_objectHasSlot x_objectSlot x_frameMethod x_framePlace x_frameToken x_frameOperators x_frameArgument x_operatorKind x_operatorValue x_operatorLeft x_workedOut y_slots y_methodAt y_reached y_pc y_opsAt y_arguments y_operator y_got y_operands y_many y_broken y_chosen := by
  obtain ⟨h1, h2, h3, h4, hf, h6, h7, h8, h9⟩ := h
  have k1 : cm_ko cm_al ((m, pl, pc, ar, []) :: f :: K) = cm_ko cm_al (f :: K) + 0 := rfl
  have k2 : cm_kv cm_al ((m, pl, pc, ar, []) :: f :: K) = cm_kv cm_al (f :: K) + 0 := rfl
  have k3 : (f :: K).length = K.length + 1 := rfl
  exact ⟨h1, h2, by omega, by omega, h6 f List.mem_cons_self, fun f' hf' => h6 f' (List.mem_cons_of_mem _ hf'), h7.2, h8.2, h9.2⟩
theorem cm_mv_push {s no m pl g p t : Nat} {ar : Nat → Int64} {K : List cm_Fr} {fA' ag' : Nat → Int64} {ch' mn' bk' : Nat → Int32} (h : cm_V nc K s no x_lineClass x_lineLength x_methodGeneric x_parameterCount x_specialiser x_tokenKind x_tokenValue x_tokenCount x_objectClass x_objectHasSlot x_objectSlot x_frameMethod x_framePlace x_frameToken x_frameOperators x_frameArgument x_operatorKind x_operatorValue x_operatorLeft x_workedOut y_slots y_methodAt y_reached y_pc y_opsAt y_arguments y_operator y_got y_operands y_many y_broken y_chosen) (hK : K.length < 8) (hm : m < 24) (hg : g < 5) (hp1 : 1 ≤ p) (hp3 : p ≤ 3) (ht : t ≤ 16) (eg : x_methodGeneric m = nI g) (ep : x_parameterCount g = nI p) (et : x_tokenCount m = nI t) (hpn : rl_pn (rl_am x_parameterCount x_tokenKind x_tokenValue m) t 0 1) (hv : ∀ q, q < p → rl_val no (ar q)) (hpl : pl < or_mn (or_R x_lineClass x_lineLength x_objectClass x_specialiser ar p) p (or_L x_methodGeneric (or_R x_lineClass x_lineLength x_objectClass x_specialiser ar p) g p)) (hfA : ∀ q, q < p → fA' (3 * K.length + q) = ar q) (hfA2 : ∀ j, j < 3 * K.length → fA' j = x_frameArgument j) (hag : ∀ q, q < p → ag' (3 * K.length + q) = ar q) (hag2 : ∀ j, j < 3 * K.length → ag' j = y_arguments j)
    (hmn : mn' K.length = nI (or_mn (or_R x_lineClass x_lineLength x_objectClass x_specialiser ar p) p (or_L x_methodGeneric (or_R x_lineClass x_lineLength x_objectClass x_specialiser ar p) g p))) (hbk : bk' K.length = bs_ci (or_sq (or_R x_lineClass x_lineLength x_objectClass x_specialiser ar p) p (or_L x_methodGeneric (or_R x_lineClass x_lineLength x_objectClass x_specialiser ar p) g p) (or_mn (or_R x_lineClass x_lineLength x_objectClass x_specialiser ar p) p (or_L x_methodGeneric (or_R x_lineClass x_lineLength x_objectClass x_specialiser ar p) g p)) = 0) 0 1) (hch : ∀ j, j < or_mn (or_R x_lineClass x_lineLength x_objectClass x_specialiser ar p) p (or_L x_methodGeneric (or_R x_lineClass x_lineLength x_objectClass x_specialiser ar p) g p) → ch' (24 * K.length + j) = nI (or_ld (or_R x_lineClass x_lineLength x_objectClass x_specialiser ar p) p (or_sq (or_R x_lineClass x_lineLength x_objectClass x_specialiser ar p) p (or_L x_methodGeneric (or_R x_lineClass x_lineLength x_objectClass x_specialiser ar p) g p) j)))
    (hmn2 : ∀ j, j < K.length → mn' j = y_many j ∧ bk' j = y_broken j) (hch2 : ∀ j, j < 24 * K.length → ch' j = y_chosen j) : cm_J nc (1) ((m, pl, 0, ar, [])) (K) (s) (no) x_lineClass x_lineLength x_methodGeneric x_parameterCount x_specialiser x_tokenKind x_tokenValue x_tokenCount x_objectClass x_objectHasSlot x_objectSlot (upd x_frameMethod K.length (nI m)) (upd x_framePlace K.length (nI pl)) (upd x_frameToken K.length 0) (upd x_frameOperators K.length (nI (cm_ko (cm_vx x_tokenKind) K))) fA' x_operatorKind x_operatorValue x_operatorLeft x_workedOut y_slots (upd y_methodAt K.length (nI m)) (upd y_reached K.length (nI pl)) (upd y_pc K.length 0) (upd y_opsAt K.length (nI (cm_ko cm_al K))) ag' y_operator y_got y_operands mn' bk' ch' := by
  obtain ⟨h1, h2, h3, h4, h6, h7, h8, h9⟩ := h
  have enp := cm_np_e hg hp3 eg ep
  refine ⟨h1, h2, by show cm_ko cm_al K + 0 + (cm_kv cm_al K + 0) + 0 ≤ s; omega, hK, ⟨g, p, t, hm, hg, hp1, hp3, ht, eg, ep, et, Nat.zero_le _, hpn, fun i hi => absurd hi List.not_mem_nil, hv, hpl⟩, h6, ⟨⟨pk_us, pk_us, pk_us, pk_us, fun q hq => ?_, trivial⟩, cm_lk_c (cm_np3 _ _) K (fun j hj => ⟨pk_un (by omega), pk_un (by omega), pk_un (by omega), pk_un (by omega)⟩) hfA2 (fun _ _ => ⟨rfl, rfl, rfl⟩) (fun _ _ => rfl) h7⟩, ⟨⟨pk_us, pk_us, pk_us, pk_us, fun q hq => ?_, trivial⟩, cm_lk_c (cm_np3 _ _) K (fun j hj => ⟨pk_un (by omega), pk_un (by omega), pk_un (by omega), pk_un (by omega)⟩) hag2 (fun _ _ => ⟨rfl, rfl, rfl⟩) (fun _ _ => rfl) h8⟩, ⟨fun g2 p2 hg2 hp2 eg2 ep2 => ?_, cm_ly_c K hmn2 hch2 h9⟩⟩
  · have hq' : q < cm_np x_parameterCount x_methodGeneric m := hq
    rw [enp] at hq'
    exact hfA q hq'
  · have hq' : q < cm_np x_parameterCount x_methodGeneric m := hq
    rw [enp] at hq'
    exact hag q hq'
  · have eg2' : x_methodGeneric m = nI g2 := eg2
    rw [eg] at eg2'
    have e1 := bs_inj (by omega) (by omega) eg2'
    subst e1
    rw [ep] at ep2
    have e2 := bs_inj (by omega) (by omega) ep2
    subst e2
    exact ⟨hmn, hbk, hch⟩
/-- objects come and change -/
theorem cm_mv_obj {x s no no' : Nat} {f : cm_Fr} {K : List cm_Fr} {OC' OH' : Nat → Int32} {OS' SL' : Nat → Int64} (h : cm_J nc (x) (f) (K) (s) (no) x_lineClass x_lineLength x_methodGeneric x_parameterCount x_specialiser x_tokenKind x_tokenValue x_tokenCount x_objectClass x_objectHasSlot x_objectSlot x_frameMethod x_framePlace x_frameToken x_frameOperators x_frameArgument x_operatorKind x_operatorValue x_operatorLeft x_workedOut y_slots y_methodAt y_reached y_pc y_opsAt y_arguments y_operator y_got y_operands y_many y_broken y_chosen) (hn : no ≤ no') (hoc : ∀ k, k < no → OC' k = x_objectClass k) (ho : rl_obj nc no' OC' OH' OS' SL') : cm_J nc (x) (f) (K) (s) (no') x_lineClass x_lineLength x_methodGeneric x_parameterCount x_specialiser x_tokenKind x_tokenValue x_tokenCount OC' OH' OS' x_frameMethod x_framePlace x_frameToken x_frameOperators x_frameArgument x_operatorKind x_operatorValue x_operatorLeft x_workedOut SL' y_methodAt y_reached y_pc y_opsAt y_arguments y_operator y_got y_operands y_many y_broken y_chosen := by
  obtain ⟨h1, h2, h3, h4, hf, h6, h7, h8, h9⟩ := h
  refine ⟨ho, h2, h3, h4, cm_fo_m hn h1.1 hoc hf, fun f' hf' => cm_fo_m hn h1.1 hoc (h6 f' hf'), h7, h8, cm_ly_m (TK := x_tokenKind) (TV := x_tokenValue) (TC := x_tokenCount) h1.1 hoc (f :: K) (fun f' hf' => ?_) h9⟩
  rcases List.mem_cons.mp hf' with e | e
  · rw [e]; exact ⟨x, hf⟩
  · exact ⟨0, h6 f' e⟩
end
end
section
/-! Y's walks whose arrays must be known ahead: there ARE arrays such that, for every post .. -/
theorem lq_ex {σ ρ : Type} (W : ρ → Nat → Nat → σ → Prop) (I : Nat → σ → Prop) (F : ρ → σ → Prop) (e : Nat) (hx : ∀ P n s, I e s → F P s → W P (n + 1) e s) (hs : ∀ i s, i < e → I i s → ∃ s', I (i + 1) s' ∧ ∀ P n, W P n (i + 1) s' → W P (n + 1) i s) : ∀ d i s, i + d = e → I i s → ∃ s', I e s' ∧ ∀ P, F P s' → W P (d + 1) i s := by
  intro d
  induction d with
  | zero =>
    intro i s hi hI
    have ei : i = e := by omega
    subst ei
    exact ⟨s, hI, fun P hF => hx P 0 s hI hF⟩
  | succ d ih =>
    intro i s hi hI
    obtain ⟨s1, h1, h2⟩ := hs i s (by omega) hI
    obtain ⟨s', h3, h4⟩ := ih (i + 1) s1 (by omega) h1
    exact ⟨s', h3, fun P hF => h2 P (d + 1) (h4 P hF)⟩
section
variable {y_classes : Int32} {y_supers : Int32} {y_objects : Int32} {y_specials : Int32} {y_depth : Int32} {y_ops : Int32} {y_held : Int32} {y_fault : Int32} {y_steps : Int32} {y_shownSteps : Int32} {y_result : Int64} {y_line : Nat → Int32} {y_lineLength : Nat → Int32} {y_has : Nat → Int32} {y_sealed : Nat → Int32} {y_initial : Nat → Int32} {y_drafted : Nat → Int32} {y_draftHas : Nat → Int32} {y_draftInitial : Nat → Int32} {y_lists : Nat → Int32} {y_listLength : Nat → Int32} {y_gone : Nat → Int32} {y_classOfObject : Nat → Int32} {y_slots : Nat → Int64} {y_parameters : Nat → Int32} {y_generic : Nat → Int32} {y_single : Nat → Int32} {y_special : Nat → Int64} {y_kind : Nat → Int32} {y_tokens : Nat → Int32} {y_with : Nat → Int32} {y_methodAt : Nat → Int32} {y_pc : Nat → Int32} {y_chosen : Nat → Int32} {y_many : Nat → Int32} {y_reached : Nat → Int32} {y_opsAt : Nat → Int32} {y_broken : Nat → Int32} {y_arguments : Nat → Int64} {y_operands : Nat → Int64} {y_operator : Nat → Int32} {y_got : Nat → Int32}
theorem my_make_e {nc c l no : Nat} (h : rl_cls nc y_line y_lineLength) (hc : c < nc) (hc1 : c ≠ 1) (hl : l ≤ 16) (el : y_lineLength c = nI l) (hno : no < 20) : ∃ SL' : Nat → Int64, mk_PY y_line y_has y_initial y_slots c l no SL' 4 ∧ ∀ post : Int32 → SY → Prop, post (nI no) (nI nc, y_supers, nI (no + 1), y_specials, y_depth, y_ops, y_held, y_fault, y_steps, y_shownSteps, y_result, y_line, y_lineLength, y_has, y_sealed, y_initial, y_drafted, y_draftHas, y_draftInitial, y_lists, y_listLength, y_gone, upd y_classOfObject no (nI c), SL', y_parameters, y_generic, y_single, y_special, y_kind, y_tokens, y_with, y_methodAt, y_pc, y_chosen, y_many, y_reached, y_opsAt, y_broken, y_arguments, y_operands, y_operator, y_got) → wpY_make post (nI nc, y_supers, nI no, y_specials, y_depth, y_ops, y_held, y_fault, y_steps, y_shownSteps, y_result, y_line, y_lineLength, y_has, y_sealed, y_initial, y_drafted, y_draftHas, y_draftInitial, y_lists, y_listLength, y_gone, y_classOfObject, y_slots, y_parameters, y_generic, y_single, y_special, y_kind, y_tokens, y_with, y_methodAt, y_pc, y_chosen, y_many, y_reached, y_opsAt, y_broken, y_arguments, y_operands, y_operator, y_got) (nI c) := by
  have hn16 := h.2.1
  obtain ⟨SL', hS, hk⟩ := lq_ex (σ := Nat → Int64) (ρ := Int32 → SY → Prop) (fun post n' i s => wY_make_44 post (nI c) (nI nc) y_supers (nI no) y_specials y_depth y_ops y_held y_fault y_steps y_shownSteps y_result n' (nI i) y_line y_lineLength y_has y_sealed y_initial y_drafted y_draftHas y_draftInitial y_lists y_listLength y_gone (upd y_classOfObject no (nI c)) s y_parameters y_generic y_single y_special y_kind y_tokens y_with y_methodAt y_pc y_chosen y_many y_reached y_opsAt y_broken y_arguments y_operands y_operator y_got) (fun i s => mk_PY y_line y_has y_initial y_slots c l no s i) (fun post s => post (nI no) (nI nc, y_supers, nI (no + 1), y_specials, y_depth, y_ops, y_held, y_fault, y_steps, y_shownSteps, y_result, y_line, y_lineLength, y_has, y_sealed, y_initial, y_drafted, y_draftHas, y_draftInitial, y_lists, y_listLength, y_gone, upd y_classOfObject no (nI c), s, y_parameters, y_generic, y_single, y_special, y_kind, y_tokens, y_with, y_methodAt, y_pc, y_chosen, y_many, y_reached, y_opsAt, y_broken, y_arguments, y_operands, y_operator, y_got)) 4
    (fun post n' s hI hF => br_t (nI_le (Nat.le_refl _) (by omega)) (nm_r (nI_1 no) hF))
    (by
      intro i s hi hI
      rcases mk_own_x (CH := y_has) (n := i) h hc hl el with ho | ⟨e, he, ho, _⟩
      · refine ⟨vp_updL s (4 * no + i) (-9223372036854775808), ⟨fun j hj => ?_, fun n hn => ?_⟩, fun post n' k => ?_⟩
        · rw [pk_uLn (by omega)]; exact hI.1 j hj
        · by_cases e1 : n = i
          · rw [e1, pk_uLs]; exact Or.inl ⟨ho, rfl⟩
          · rw [pk_uLn (by omega)]; exact hI.2 n (by omega)
        · refine br_f (nI_ge (b := 4) hi (by omega)) (my_giver h hc hl el hi ?_)
          rw [ho]
          exact br_f (by decide) ⟨pk_in (4 * no + i) 80 (by omega) (bs_ix 4 no i), nm_r (e' := vp_updL s (4 * no + i) (-9223372036854775808)) (by rw [bs_ix 4 no i, bs_clk (by omega)]) (nm_r (nI_1 i) k)⟩
      · refine ⟨vp_updL s (4 * no + i) (y_initial (4 * e + i)).toInt64, ⟨fun j hj => ?_, fun n hn => ?_⟩, fun post n' k => ?_⟩
        · rw [pk_uLn (by omega)]; exact hI.1 j hj
        · by_cases e1 : n = i
          · rw [e1, pk_uLs]; exact Or.inr ⟨e, by omega, ho, rfl⟩
          · rw [pk_uLn (by omega)]; exact hI.2 n (by omega)
        · refine br_f (nI_ge (b := 4) hi (by omega)) (my_giver h hc hl el hi ?_)
          rw [ho]
          exact br_t (bs_ge0 (by omega)) ⟨pk_in (4 * e + i) 64 (by omega) (bs_ix 4 e i), pk_in (4 * no + i) 80 (by omega) (bs_ix 4 no i), nm_r (e' := vp_updL s (4 * no + i) (y_initial (4 * e + i)).toInt64) (by rw [bs_ix 4 no i, bs_ix 4 e i, bs_clk (by omega), bs_clk (by omega)]) (nm_r (nI_1 i) k)⟩)
    4 0 y_slots (by omega) ⟨fun j _ => rfl, lt_0⟩
  refine ⟨SL', hS, fun post hp => ?_⟩
  unfold wpY_make
  exact my_out_t hc (by omega) (br_t rfl (pk_eq c 1 (fun e => absurd e hc1) (fun _ => pk_eq no 20 (fun e => by omega) (fun _ => ⟨pk_in no 20 hno, nm_r (e' := upd y_classOfObject no (nI c)) (by rw [bs_clk (by omega), bs_vb8 (by omega)]) ⟨5, hk post hp⟩⟩))))
theorem my_wk_mk1 {post : SY → Prop} {s d m pc : Nat} (hs : s < 120) (hd : d < 8) (hm : m < 24) (hpc : pc < 16) (eM : y_methodAt d = nI m) (eT : y_pc d = nI pc) {no : Nat} (ek : y_kind (16 * m + pc) = nI 12) (ea : y_with (16 * m + pc) = nI 1) (h5 : post (y_classes, y_supers, nI no, y_specials, nI (d + 1), y_ops, y_held, 5, nI (s + 1), y_shownSteps, y_result, y_line, y_lineLength, y_has, y_sealed, y_initial, y_drafted, y_draftHas, y_draftInitial, y_lists, y_listLength, y_gone, y_classOfObject, y_slots, y_parameters, y_generic, y_single, y_special, y_kind, y_tokens, y_with, y_methodAt, upd y_pc d (nI (pc + 1)), y_chosen, y_many, y_reached, y_opsAt, y_broken, y_arguments, y_operands, y_operator, y_got)) : wpY_work post (y_classes, y_supers, nI no, y_specials, nI (d + 1), y_ops, y_held, y_fault, nI s, y_shownSteps, y_result, y_line, y_lineLength, y_has, y_sealed, y_initial, y_drafted, y_draftHas, y_draftInitial, y_lists, y_listLength, y_gone, y_classOfObject, y_slots, y_parameters, y_generic, y_single, y_special, y_kind, y_tokens, y_with, y_methodAt, y_pc, y_chosen, y_many, y_reached, y_opsAt, y_broken, y_arguments, y_operands, y_operator, y_got) := by
  unfold wpY_work
  refine pk_eq s 120 (fun e => by omega) (fun _ => nm_r (nI_1 s) (nm_r (nI_pred d) ⟨pk_in d 8 hd, pk_in d 8 hd, pk_in d 8 hd, nm_r (e' := upd y_pc d (nI (pc + 1))) (by rw [bs_clk (n := d) (by omega), eT, nI_1, bs_vb8 (by omega)]) (nm_r (e' := nI (16 * m + pc)) (by rw [bs_clk (n := d) (by omega), eM, eT, bs_ix 16 m pc]) ⟨pk_in (16 * m + pc) 400 (by omega), nm_r (e' := y_kind (16 * m + pc)) (by rw [bs_clk (by omega)]) ?_⟩)⟩))
  rw [ek]
  refine br_f (by decide) (br_f (by decide) (br_f (by decide) (br_t rfl ⟨pk_in (16 * m + pc) 400 (by omega), ?_⟩)))
  rw [bs_clk (n := 16 * m + pc) (by omega), ea]
  unfold wpY_create
  exact br_t rfl h5
theorem my_wk_mk8 {post : SY → Prop} {s d m pc : Nat} (hs : s < 120) (hd : d < 8) (hm : m < 24) (hpc : pc < 16) (eM : y_methodAt d = nI m) (eT : y_pc d = nI pc) {c : Nat} (hc : c < 16) (hc1 : c ≠ 1) (ek : y_kind (16 * m + pc) = nI 12) (ea : y_with (16 * m + pc) = nI c) (h8 : post (y_classes, y_supers, nI 20, y_specials, nI (d + 1), y_ops, y_held, 8, nI (s + 1), y_shownSteps, y_result, y_line, y_lineLength, y_has, y_sealed, y_initial, y_drafted, y_draftHas, y_draftInitial, y_lists, y_listLength, y_gone, y_classOfObject, y_slots, y_parameters, y_generic, y_single, y_special, y_kind, y_tokens, y_with, y_methodAt, upd y_pc d (nI (pc + 1)), y_chosen, y_many, y_reached, y_opsAt, y_broken, y_arguments, y_operands, y_operator, y_got)) : wpY_work post (y_classes, y_supers, nI 20, y_specials, nI (d + 1), y_ops, y_held, y_fault, nI s, y_shownSteps, y_result, y_line, y_lineLength, y_has, y_sealed, y_initial, y_drafted, y_draftHas, y_draftInitial, y_lists, y_listLength, y_gone, y_classOfObject, y_slots, y_parameters, y_generic, y_single, y_special, y_kind, y_tokens, y_with, y_methodAt, y_pc, y_chosen, y_many, y_reached, y_opsAt, y_broken, y_arguments, y_operands, y_operator, y_got) := by
  unfold wpY_work
  refine pk_eq s 120 (fun e => by omega) (fun _ => nm_r (nI_1 s) (nm_r (nI_pred d) ⟨pk_in d 8 hd, pk_in d 8 hd, pk_in d 8 hd, nm_r (e' := upd y_pc d (nI (pc + 1))) (by rw [bs_clk (n := d) (by omega), eT, nI_1, bs_vb8 (by omega)]) (nm_r (e' := nI (16 * m + pc)) (by rw [bs_clk (n := d) (by omega), eM, eT, bs_ix 16 m pc]) ⟨pk_in (16 * m + pc) 400 (by omega), nm_r (e' := y_kind (16 * m + pc)) (by rw [bs_clk (by omega)]) ?_⟩)⟩))
  rw [ek]
  refine br_f (by decide) (br_f (by decide) (br_f (by decide) (br_t rfl ⟨pk_in (16 * m + pc) 400 (by omega), ?_⟩)))
  rw [bs_clk (n := 16 * m + pc) (by omega), ea]
  unfold wpY_create
  exact pk_eq c 1 (fun e => absurd e hc1) (fun _ => br_t rfl h8)
theorem my_wk_mk {post : SY → Prop} {s d m pc : Nat} (hs : s < 120) (hd : d < 8) (hm : m < 24) (hpc : pc < 16) (eM : y_methodAt d = nI m) (eT : y_pc d = nI pc) {nc no c : Nat} {SL' : Nat → Int64} (hc : c < 16) (hc1 : c ≠ 1) (hno : no < 20) (ek : y_kind (16 * m + pc) = nI 12) (ea : y_with (16 * m + pc) = nI c) (hm1 : ∀ P : Int32 → SY → Prop, P (nI no) (nI nc, y_supers, nI (no + 1), y_specials, nI (d + 1), y_ops, y_held, y_fault, nI (s + 1), y_shownSteps, y_result, y_line, y_lineLength, y_has, y_sealed, y_initial, y_drafted, y_draftHas, y_draftInitial, y_lists, y_listLength, y_gone, upd y_classOfObject no (nI c), SL', y_parameters, y_generic, y_single, y_special, y_kind, y_tokens, y_with, y_methodAt, upd y_pc d (nI (pc + 1)), y_chosen, y_many, y_reached, y_opsAt, y_broken, y_arguments, y_operands, y_operator, y_got) → wpY_make P (nI nc, y_supers, nI no, y_specials, nI (d + 1), y_ops, y_held, y_fault, nI (s + 1), y_shownSteps, y_result, y_line, y_lineLength, y_has, y_sealed, y_initial, y_drafted, y_draftHas, y_draftInitial, y_lists, y_listLength, y_gone, y_classOfObject, y_slots, y_parameters, y_generic, y_single, y_special, y_kind, y_tokens, y_with, y_methodAt, upd y_pc d (nI (pc + 1)), y_chosen, y_many, y_reached, y_opsAt, y_broken, y_arguments, y_operands, y_operator, y_got) (nI c)) (hp : wpY_deliver post (nI nc, y_supers, nI (no + 1), y_specials, nI (d + 1), y_ops, y_held, y_fault, nI (s + 1), y_shownSteps, y_result, y_line, y_lineLength, y_has, y_sealed, y_initial, y_drafted, y_draftHas, y_draftInitial, y_lists, y_listLength, y_gone, upd y_classOfObject no (nI c), SL', y_parameters, y_generic, y_single, y_special, y_kind, y_tokens, y_with, y_methodAt, upd y_pc d (nI (pc + 1)), y_chosen, y_many, y_reached, y_opsAt, y_broken, y_arguments, y_operands, y_operator, y_got) (lN (4294967296 + no))) : wpY_work post (nI nc, y_supers, nI no, y_specials, nI (d + 1), y_ops, y_held, y_fault, nI s, y_shownSteps, y_result, y_line, y_lineLength, y_has, y_sealed, y_initial, y_drafted, y_draftHas, y_draftInitial, y_lists, y_listLength, y_gone, y_classOfObject, y_slots, y_parameters, y_generic, y_single, y_special, y_kind, y_tokens, y_with, y_methodAt, y_pc, y_chosen, y_many, y_reached, y_opsAt, y_broken, y_arguments, y_operands, y_operator, y_got) := by
  unfold wpY_work
  refine pk_eq s 120 (fun e => by omega) (fun _ => nm_r (nI_1 s) (nm_r (nI_pred d) ⟨pk_in d 8 hd, pk_in d 8 hd, pk_in d 8 hd, nm_r (e' := upd y_pc d (nI (pc + 1))) (by rw [bs_clk (n := d) (by omega), eT, nI_1, bs_vb8 (by omega)]) (nm_r (e' := nI (16 * m + pc)) (by rw [bs_clk (n := d) (by omega), eM, eT, bs_ix 16 m pc]) ⟨pk_in (16 * m + pc) 400 (by omega), nm_r (e' := y_kind (16 * m + pc)) (by rw [bs_clk (by omega)]) ?_⟩)⟩))
  rw [ek]
  refine br_f (by decide) (br_f (by decide) (br_f (by decide) (br_t rfl ⟨pk_in (16 * m + pc) 400 (by omega), ?_⟩)))
  rw [bs_clk (n := 16 * m + pc) (by omega), ea]
  unfold wpY_create
  refine pk_eq c 1 (fun e => absurd e hc1) (fun _ => pk_eq no 20 (fun e => by omega) (fun _ => hm1 _ ?_))
  have ev : (4294967296 : Int64) + (nI no).toInt64 = lN (4294967296 + no) := by rw [ob_no (by omega), ob_K, lN_add]
  dsimp only
  rw [ev]
  exact cm_eta (fun t => by obtain ⟨z_classes, z_supers, z_objects, z_specials, z_depth, z_ops, z_held, z_fault, z_steps, z_shownSteps, z_result, z_line, z_lineLength, z_has, z_sealed, z_initial, z_drafted, z_draftHas, z_draftInitial, z_lists, z_listLength, z_gone, z_classOfObject, z_slots, z_parameters, z_generic, z_single, z_special, z_kind, z_tokens, z_with, z_methodAt, z_pc, z_chosen, z_many, z_reached, z_opsAt, z_broken, z_arguments, z_operands, z_operator, z_got⟩ := t; rfl) (C := fun Q => wpY_deliver Q _ _) hp
theorem my_so62_e {nc no g p lv : Nat} {SP ar : Nat → Int64} {L : Int32} {R : Nat → Nat → Int32} (eR : R = or_R y_line y_lineLength y_classOfObject SP ar p) (hW : or_W nc no g p y_line y_lineLength y_classOfObject y_parameters ar) (hlv : lv < 8) (ha : ∀ k, k < p → y_arguments (3 * lv + k) = ar k) (hF : ∀ q m, m < 24 → or_bit (or_sq R p L q) m → y_generic m = nI g ∧ ∀ k, k < p → rl_sp nc no (SP (3 * m + k)) (y_single (3 * m + k)) (y_special (3 * m + k))) : ∀ (d q : Nat) (ch mn bk : Nat → Int32), q + d = or_mn R p L → mn lv = nI q → bk lv = 0 → (∀ j, j < q → ch (24 * lv + j) = nI (or_ld R p (or_sq R p L j))) → (∀ f, f ≠ lv → mn f = y_many f ∧ bk f = y_broken f) → (∀ j, (j < 24 * lv ∨ 24 * lv + 24 ≤ j) → ch j = y_chosen j) → ∃ ch' mn' bk' : Nat → Int32, or_S R p L lv y_chosen y_many y_broken ch' mn' bk' ∧ ∀ post : SY → Prop, post (y_classes, y_supers, nI no, y_specials, y_depth, y_ops, y_held, y_fault, y_steps, y_shownSteps, y_result, y_line, y_lineLength, y_has, y_sealed, y_initial, y_drafted, y_draftHas, y_draftInitial, y_lists, y_listLength, y_gone, y_classOfObject, y_slots, y_parameters, y_generic, y_single, y_special, y_kind, y_tokens, y_with, y_methodAt, y_pc, ch', mn', y_reached, y_opsAt, bk', y_arguments, y_operands, y_operator, y_got) → wY_sort_62 post (nI lv) y_classes y_supers (nI no) y_specials y_depth y_ops y_held y_fault y_steps y_shownSteps y_result (d + 2) (or_sq R p L q) y_line y_lineLength y_has y_sealed y_initial y_drafted y_draftHas y_draftInitial y_lists y_listLength y_gone y_classOfObject y_slots y_parameters y_generic y_single y_special y_kind y_tokens y_with y_methodAt y_pc ch mn y_reached y_opsAt bk y_arguments y_operands y_operator y_got := by
  have hle := or_mn_le R p L
  intro d
  induction d with
  | zero =>
    intro q ch mn bk hq hmn hbk hch hf hc
    have eq : q = or_mn R p L := by omega
    have hno := or_mn_no (R := R) (p := p) (L := L)
    rw [← eq] at hno
    by_cases z : or_sq R p L q = 0
    · refine ⟨ch, mn, bk, ⟨by rw [hmn, eq], ?_, fun j hj => hch j (by omega), hf, hc⟩, fun post hp => br_t z hp⟩
      rw [← eq, bs_ct z, hbk]
    · refine ⟨ch, mn, upd bk lv 1, ⟨by rw [hmn, eq], ?_, fun j hj => hch j (by omega), fun f hfl => ⟨(hf f hfl).1, by rw [pk_un hfl]; exact (hf f hfl).2⟩, hc⟩, fun post hp => br_f z ⟨pk_in lv 8 hlv, ?_⟩⟩
      · rw [← eq, bs_cf z, pk_us]
      · rw [bs_clk (n := lv) (by omega)]
        refine br_t hbk ?_
        rw [bs_ml 3 lv]
        refine my_leader (SP := SP) hW (by omega) ha (hF q) ?_
        rw [← eR, bs_cf hno]
        refine br_f (by decide) ⟨pk_in lv 8 hlv, nm_r (e' := upd bk lv 1) (by rw [bs_clk (by omega), bs_z1]) (br_f (by decide) ?_)⟩
        exact br_f z ⟨pk_in lv 8 hlv, br_f (by rw [bs_clk (n := lv) (by omega), pk_us]; decide) hp⟩
  | succ d ih =>
    intro q ch mn bk hq hmn hbk hch hf hc
    have hl := or_mn_lt (R := R) (p := p) (L := L) (q := q) (by omega)
    have hg := bs_fi_p (p := or_good R p (or_sq R p L q)) hl
    have hz : ¬ or_sq R p L q = 0 := by
      intro z
      have h1 := hg.1
      rw [z] at h1
      exact or_bit0 (m := or_ld R p 0) (by rw [z] at hl; omega) h1
    obtain ⟨ch', mn', bk', hS, hk⟩ := ih (q + 1) (upd ch (24 * lv + q) (nI (or_ld R p (or_sq R p L q)))) (upd mn lv (nI (q + 1))) (upd bk lv 0) (by omega) pk_us pk_us (fun j hj => by
      by_cases e : j = q
      · rw [e, pk_us]
      · rw [pk_un (by omega)]; exact hch j (by omega)) (fun f hfl => by rw [pk_un hfl, pk_un hfl]; exact hf f hfl) (fun j hj => by rw [pk_un (by omega)]; exact hc j hj)
    refine ⟨ch', mn', bk', hS, fun post hp => br_f hz ⟨pk_in lv 8 hlv, ?_⟩⟩
    rw [bs_clk (n := lv) (by omega)]
    refine br_t hbk ?_
    rw [bs_ml 3 lv]
    refine my_leader (SP := SP) hW (by omega) ha (hF q) ?_
    rw [← eR, bs_ct hl]
    refine br_t (bs_ge0 (by omega)) ⟨pk_in lv 8 hlv, nm_r (e' := upd bk lv 0) (by rw [bs_clk (by omega), bs_z0]) (br_t (bs_ge0 (by omega)) ⟨pk_in lv 8 hlv, pk_in lv 8 hlv, nm_r (e' := upd mn lv (nI (q + 1))) ?_ ⟨?_, nm_r (e' := upd ch (24 * lv + q) (nI (or_ld R p (or_sq R p L q)))) ?_ (nm_r (e' := or_sq R p L (q + 1)) (or_sq_t hl) (hk post hp))⟩⟩)⟩
    · rw [bs_clk (by omega), hmn, nI_1, bs_vb8 (by omega)]
    · rw [bs_clk (n := lv) (by omega), hmn]
      exact pk_in (24 * lv + q) 192 (by omega) (bs_ix 24 lv q)
    · rw [bs_clk (n := lv) (by omega), hmn, bs_ix 24 lv q, bs_clk (by omega), bs_vb8 (by omega)]
theorem my_sort_e {nc no g p lv : Nat} {SP ar : Nat → Int64} {R : Nat → Nat → Int32} (eR : R = or_R y_line y_lineLength y_classOfObject SP ar p) (hW : or_W nc no g p y_line y_lineLength y_classOfObject y_parameters ar) (hlv : lv < 8) (ha : ∀ k, k < p → y_arguments (3 * lv + k) = ar k) (hs : ∀ m, m < 24 → y_generic m = nI g → ∀ k, k < p → rl_sp nc no (SP (3 * m + k)) (y_single (3 * m + k)) (y_special (3 * m + k))) : ∃ ch' mn' bk' : Nat → Int32, or_S R p (or_L y_generic R g p) lv y_chosen y_many y_broken ch' mn' bk' ∧ ∀ post : SY → Prop, post (y_classes, y_supers, nI no, y_specials, y_depth, y_ops, y_held, y_fault, y_steps, y_shownSteps, y_result, y_line, y_lineLength, y_has, y_sealed, y_initial, y_drafted, y_draftHas, y_draftInitial, y_lists, y_listLength, y_gone, y_classOfObject, y_slots, y_parameters, y_generic, y_single, y_special, y_kind, y_tokens, y_with, y_methodAt, y_pc, ch', mn', y_reached, y_opsAt, bk', y_arguments, y_operands, y_operator, y_got) → wpY_sort post (y_classes, y_supers, nI no, y_specials, y_depth, y_ops, y_held, y_fault, y_steps, y_shownSteps, y_result, y_line, y_lineLength, y_has, y_sealed, y_initial, y_drafted, y_draftHas, y_draftInitial, y_lists, y_listLength, y_gone, y_classOfObject, y_slots, y_parameters, y_generic, y_single, y_special, y_kind, y_tokens, y_with, y_methodAt, y_pc, y_chosen, y_many, y_reached, y_opsAt, y_broken, y_arguments, y_operands, y_operator, y_got) (nI g) (nI lv) := by
  obtain ⟨ch', mn', bk', hS, hk⟩ := my_so62_e (L := or_L y_generic R g p) eR hW hlv ha (fun q m hm hb => by
    have hP := or_LF hm hb
    exact ⟨hP.1, hs m hm hP.1⟩) (or_mn R p (or_L y_generic R g p)) 0 y_chosen (upd y_many lv 0) (upd y_broken lv 0) (by omega) pk_us pk_us lt_0 (fun f hfl => by rw [pk_un hfl, pk_un hfl]; exact ⟨rfl, rfl⟩) (fun j _ => rfl)
  refine ⟨ch', mn', bk', hS, fun post hp => ?_⟩
  unfold wpY_sort
  refine loop_0 (σ := Int32) (fun n i s => wY_sort_5 post (nI g) (nI lv) y_classes y_supers (nI no) y_specials y_depth y_ops y_held y_fault y_steps y_shownSteps y_result y_line y_lineLength y_has y_sealed y_initial y_drafted y_draftHas y_draftInitial y_lists y_listLength y_gone y_classOfObject y_slots y_parameters y_generic y_single y_special y_kind y_tokens y_with y_methodAt y_pc y_chosen y_many y_reached y_opsAt y_broken y_arguments y_operands y_operator y_got n s (nI i)) (fun i s => s = or_ap (or_P y_generic R g p) i) 24 0 rfl ?_ ?_
  · rintro n s rfl
    exact br_t (nI_le (Nat.le_refl _) (by omega)) ⟨pk_in lv 8 hlv, nm_r (e' := upd y_many lv 0) (by rw [bs_clk (by omega), bs_v0]) ⟨pk_in lv 8 hlv, nm_r (e' := upd y_broken lv 0) (by rw [bs_clk (by omega), bs_z0]) ⟨or_mn R p (or_L y_generic R g p) + 2, hk post hp⟩⟩⟩
  · rintro n i s hi rfl k
    refine br_f (nI_ge (b := 24) hi (by omega)) ⟨pk_in i 24 hi, ?_⟩
    rw [bs_clk (n := i) (by omega)]
    refine br_c (fun eg => ?_) (fun ng => nm_r (nI_1 i) (k _ (or_ap_f (fun z => ng z.1))))
    rw [bs_ml 3 lv]
    refine my_applicable (SP := SP) hW hi (by omega) eg ha (hs i hi eg) (fun happ => ?_) (fun hn => ?_)
    · rw [← eR] at happ
      exact br_f (by decide) (nm_r (e' := or_ap (or_P y_generic R g p) (i + 1)) (or_ap_t ⟨eg, happ⟩) (nm_r (nI_1 i) (k _ rfl)))
    · rw [← eR] at hn
      exact br_t rfl (nm_r (nI_1 i) (k _ (or_ap_f (fun z => hn z.2))))
theorem my_enter_e {nc no g p d oc : Nat} {SP ar : Nat → Int64} {R : Nat → Nat → Int32} {L : Int32} (eR : R = or_R y_line y_lineLength y_classOfObject SP ar p) (eL : L = or_L y_generic R g p) (hW : or_W nc no g p y_line y_lineLength y_classOfObject y_parameters ar) (hd : d ≤ 8) (hoc : oc < 128) (ha : ∀ k, k < p → y_arguments (3 * d + k) = ar k) (hs : ∀ m, m < 24 → y_generic m = nI g → ∀ k, k < p → rl_sp nc no (SP (3 * m + k)) (y_single (3 * m + k)) (y_special (3 * m + k))) : ∃ ch mn bk : Nat → Int32, (d < 8 → or_S R p L d y_chosen y_many y_broken ch mn bk) ∧ ∀ post : SY → Prop, (or_mn R p L = 0 → ¬ L = 0 → post (y_classes, y_supers, nI no, y_specials, nI d, nI oc, y_held, 2, y_steps, y_shownSteps, y_result, y_line, y_lineLength, y_has, y_sealed, y_initial, y_drafted, y_draftHas, y_draftInitial, y_lists, y_listLength, y_gone, y_classOfObject, y_slots, y_parameters, y_generic, y_single, y_special, y_kind, y_tokens, y_with, y_methodAt, y_pc, ch, mn, y_reached, y_opsAt, bk, y_arguments, y_operands, y_operator, y_got)) → (or_mn R p L = 0 → L = 0 → post (y_classes, y_supers, nI no, y_specials, nI d, nI oc, y_held, 1, y_steps, y_shownSteps, y_result, y_line, y_lineLength, y_has, y_sealed, y_initial, y_drafted, y_draftHas, y_draftInitial, y_lists, y_listLength, y_gone, y_classOfObject, y_slots, y_parameters, y_generic, y_single, y_special, y_kind, y_tokens, y_with, y_methodAt, y_pc, ch, mn, y_reached, y_opsAt, bk, y_arguments, y_operands, y_operator, y_got)) → (0 < or_mn R p L → d = 8 → post (y_classes, y_supers, nI no, y_specials, nI d, nI oc, y_held, 6, y_steps, y_shownSteps, y_result, y_line, y_lineLength, y_has, y_sealed, y_initial, y_drafted, y_draftHas, y_draftInitial, y_lists, y_listLength, y_gone, y_classOfObject, y_slots, y_parameters, y_generic, y_single, y_special, y_kind, y_tokens, y_with, y_methodAt, y_pc, ch, mn, y_reached, y_opsAt, bk, y_arguments, y_operands, y_operator, y_got)) → (0 < or_mn R p L → d < 8 → post (y_classes, y_supers, nI no, y_specials, nI (d + 1), nI oc, y_held, y_fault, y_steps, y_shownSteps, y_result, y_line, y_lineLength, y_has, y_sealed, y_initial, y_drafted, y_draftHas, y_draftInitial, y_lists, y_listLength, y_gone, y_classOfObject, y_slots, y_parameters, y_generic, y_single, y_special, y_kind, y_tokens, y_with, upd y_methodAt d (nI (or_ld R p L)), upd y_pc d 0, ch, mn, upd y_reached d 0, upd y_opsAt d (nI oc), bk, y_arguments, y_operands, y_operator, y_got)) → wpY_enter post (y_classes, y_supers, nI no, y_specials, nI d, nI oc, y_held, y_fault, y_steps, y_shownSteps, y_result, y_line, y_lineLength, y_has, y_sealed, y_initial, y_drafted, y_draftHas, y_draftInitial, y_lists, y_listLength, y_gone, y_classOfObject, y_slots, y_parameters, y_generic, y_single, y_special, y_kind, y_tokens, y_with, y_methodAt, y_pc, y_chosen, y_many, y_reached, y_opsAt, y_broken, y_arguments, y_operands, y_operator, y_got) (nI g) := by
  have hle := or_mn_le R p L
  by_cases hd8 : d = 8
  · subst hd8
    refine ⟨y_chosen, y_many, y_broken, fun z => by omega, fun post h2 h1 h6 hp => ?_⟩
    unfold wpY_enter
    refine br_t rfl ?_
    have hz : ¬ or_ld R p L < 24 → or_mn R p L = 0 := by
      intro h
      by_cases z : 0 < or_mn R p L
      · exact absurd (or_mn_lt z) h
      · omega
    refine my_sortAside (SP := SP) (R := R) eR hW ha hs (fun z => ?_) (fun z hl => ?_) (fun z hl => ?_)
    · rw [← eL] at z
      refine h1 (hz (fun hl => ?_)) z
      have hg := bs_fi_p (p := or_good R p L) hl
      have h9 := hg.1
      rw [z] at h9 hl
      exact or_bit0 (m := or_ld R p 0) (by omega) h9
    · rw [← eL] at z hl
      refine h6 ?_ rfl
      by_cases c : or_mn R p L = 0
      · have := or_mn_no (R := R) (p := p) (L := L)
        rw [c] at this
        exact absurd hl this
      · omega
    · rw [← eL] at z hl
      exact h2 (hz hl) z
  · obtain ⟨ch, mn, bk, hS, hk⟩ := my_sort_e (SP := SP) (R := R) eR hW (show d < 8 by omega) ha hs
    rw [← eL] at hS
    refine ⟨ch, mn, bk, fun _ => hS, fun post h2 h1 h6 hp => ?_⟩
    unfold wpY_enter
    refine pk_eq d 8 (fun e => absurd e hd8) (fun _ => hk _ ⟨pk_in d 8 (by omega), ?_⟩)
    obtain ⟨s1, s2, s3, _, _⟩ := hS
    rw [bs_clk (n := d) (by omega), s1]
    refine pk_eq (or_mn R p L) 0 (fun z => ⟨pk_in d 8 (by omega), ?_⟩) (fun z => ?_)
    · rw [s2, z]
      have e0 : or_sq R p L 0 = L := rfl
      rw [e0]
      by_cases zl : L = 0
      · rw [bs_ct zl]; exact br_t rfl (h1 z zl)
      · rw [bs_cf zl]; exact br_f (by decide) (h2 z zl)
    · have h0 := s3 0 (by omega)
      have hl := or_mn_lt (R := R) (p := p) (L := L) (q := 0) (by omega)
      exact my_begin (pl := 0) (by omega) (by omega) hl hoc h0 (hp (by omega) (by omega))
theorem my_next_e {d pl mnN oc x : Nat} (hd : d < 7) (hpl : pl + 1 < mnN) (hmn : mnN ≤ 24) (hoc : oc < 128) (hx : x < 24) (eR : y_reached d = nI pl) (eN : y_many d = nI mnN) (eB : y_broken d = 0 ∨ y_broken d = 1) (eC : ∀ j, j < mnN → ∃ x, x < 24 ∧ y_chosen (24 * d + j) = nI x) (ex : y_chosen (24 * d + (pl + 1)) = nI x) : ∃ ch : Nat → Int32, ((∀ j, j < mnN → ch (24 * (d + 1) + j) = y_chosen (24 * d + j)) ∧ ∀ j, j < 24 * (d + 1) → ch j = y_chosen j) ∧ ∀ post : SY → Prop, post (y_classes, y_supers, y_objects, y_specials, nI (d + 2), nI oc, y_held, y_fault, y_steps, y_shownSteps, y_result, y_line, y_lineLength, y_has, y_sealed, y_initial, y_drafted, y_draftHas, y_draftInitial, y_lists, y_listLength, y_gone, y_classOfObject, y_slots, y_parameters, y_generic, y_single, y_special, y_kind, y_tokens, y_with, upd y_methodAt (d + 1) (nI x), upd y_pc (d + 1) 0, ch, upd y_many (d + 1) (nI mnN), upd y_reached (d + 1) (nI (pl + 1)), upd y_opsAt (d + 1) (nI oc), upd y_broken (d + 1) (y_broken d), ca_ag y_arguments (3 * (d + 1)) (y_arguments (3 * d)) (y_arguments (3 * d + 1)) (y_arguments (3 * d + 2)), y_operands, y_operator, y_got) → wpY_next post (y_classes, y_supers, y_objects, y_specials, nI (d + 1), nI oc, y_held, y_fault, y_steps, y_shownSteps, y_result, y_line, y_lineLength, y_has, y_sealed, y_initial, y_drafted, y_draftHas, y_draftInitial, y_lists, y_listLength, y_gone, y_classOfObject, y_slots, y_parameters, y_generic, y_single, y_special, y_kind, y_tokens, y_with, y_methodAt, y_pc, y_chosen, y_many, y_reached, y_opsAt, y_broken, y_arguments, y_operands, y_operator, y_got) := by
  obtain ⟨ch, hS, hk⟩ := lq_ex (σ := Nat → Int32) (ρ := SY → Prop) (fun post n i s => wY_next_63 post (nI d) (nI (pl + 1)) y_classes y_supers y_objects y_specials (nI (d + 1)) (nI oc) y_held y_fault y_steps y_shownSteps y_result n (nI i) y_line y_lineLength y_has y_sealed y_initial y_drafted y_draftHas y_draftInitial y_lists y_listLength y_gone y_classOfObject y_slots y_parameters y_generic y_single y_special y_kind y_tokens y_with y_methodAt y_pc s y_many y_reached y_opsAt y_broken y_arguments y_operands y_operator y_got) (fun i s => (∀ j, j < i → j < mnN → s (24 * (d + 1) + j) = y_chosen (24 * d + j)) ∧ ∀ j, j < 24 * (d + 1) → s j = y_chosen j) (fun post s => post (y_classes, y_supers, y_objects, y_specials, nI (d + 2), nI oc, y_held, y_fault, y_steps, y_shownSteps, y_result, y_line, y_lineLength, y_has, y_sealed, y_initial, y_drafted, y_draftHas, y_draftInitial, y_lists, y_listLength, y_gone, y_classOfObject, y_slots, y_parameters, y_generic, y_single, y_special, y_kind, y_tokens, y_with, upd y_methodAt (d + 1) (nI x), upd y_pc (d + 1) 0, s, upd y_many (d + 1) (nI mnN), upd y_reached (d + 1) (nI (pl + 1)), upd y_opsAt (d + 1) (nI oc), upd y_broken (d + 1) (y_broken d), ca_ag y_arguments (3 * (d + 1)) (y_arguments (3 * d)) (y_arguments (3 * d + 1)) (y_arguments (3 * d + 2)), y_operands, y_operator, y_got)) 24
    (by
      intro post n s hI hF
      have e1 : (3 : Int32) * nI d + 1 = nI (3 * d + 1) := by rw [bs_ml 3 d, nI_1]
      have e2 : (3 : Int32) * nI d + 2 = nI (3 * d + 2) := by rw [bs_ml 3 d, show (2 : Int32) = nI 2 from rfl, nI_add]
      refine br_t (nI_le (Nat.le_refl _) (by omega)) ⟨pk_in d 8 (by omega), pk_in (d + 1) 8 (by omega), nm_r (e' := upd y_many (d + 1) (nI mnN)) (by rw [bs_clk (n := d) (by omega), bs_clk (n := d + 1) (by omega), eN, bs_vb (by omega)]) ⟨pk_in d 8 (by omega), pk_in (d + 1) 8 (by omega), nm_r (e' := upd y_broken (d + 1) (y_broken d)) (by rw [bs_clk (n := d) (by omega), bs_clk (n := d + 1) (by omega), bs_z eB]) ⟨pk_in (3 * d) 27 (by omega) (bs_ml 3 d), pk_in (3 * d + 1) 27 (by omega) e1, pk_in (3 * d + 2) 27 (by omega) e2, ?_⟩⟩⟩
      rw [e1, e2, bs_ml 3 d, bs_clk (n := 3 * d) (by omega), bs_clk (n := 3 * d + 1) (by omega), bs_clk (n := 3 * d + 2) (by omega)]
      refine my_bring (lv := d + 1) (by omega) ?_
      exact my_begin (x := x) (by omega) (by omega) hx hoc (by rw [hI.1 (pl + 1) (by omega) hpl, ex]) hF)
    (by
      intro i s hi hI
      refine ⟨upd s (24 * (d + 1) + i) (vp_nar .byte (y_chosen (24 * d + i))), ⟨fun j hj hjm => ?_, fun j hj => ?_⟩, fun post n k => ?_⟩
      · by_cases ej : j = i
        · rw [ej] at hjm ⊢
          obtain ⟨y, hy, ey⟩ := eC i hjm
          rw [pk_us, ey, bs_vb (by omega)]
        · rw [pk_un (by omega)]; exact hI.1 j (by omega) hjm
      · rw [pk_un (by omega)]; exact hI.2 j hj
      · exact br_f (nI_ge (b := 24) hi (by omega)) ⟨pk_in (24 * d + i) 192 (by omega) (bs_ix 24 d i), pk_in (24 * (d + 1) + i) 192 (by omega) (bs_ix 24 (d + 1) i), nm_r (e' := upd s (24 * (d + 1) + i) (vp_nar .byte (y_chosen (24 * d + i)))) (by rw [bs_ix 24 d i, bs_ix 24 (d + 1) i, bs_clk (n := 24 * d + i) (by omega), bs_clk (n := 24 * (d + 1) + i) (by omega), hI.2 _ (by omega)]) (nm_r (nI_1 i) k)⟩)
    24 0 y_chosen (by omega) ⟨lt_0, fun _ _ => rfl⟩
  refine ⟨ch, ⟨fun j hj => hS.1 j (by omega) hj, hS.2⟩, fun post hp => ?_⟩
  unfold wpY_next
  refine nm_r (nI_pred d) ⟨pk_in d 8 (by omega), nm_r (e' := nI (pl + 1)) (by rw [bs_clk (by omega), eR, nI_1]) ⟨pk_in d 8 (by omega), ?_⟩⟩
  rw [bs_clk (n := d) (by omega), eN]
  exact pk_lt (pl + 1) mnN (fun h => pk_eq (d + 1) 8 (fun e => by omega) (fun e => ⟨25, hk post hp⟩)) (fun h => by omega)
theorem my_next_f {post : SY → Prop} {d pl mnN oc : Nat} (hd : d < 8) (hpl : pl < 24) (hmn : mnN ≤ 24) (eR : y_reached d = nI pl) (eN : y_many d = nI mnN) (h3 : mnN ≤ pl + 1 → y_broken d = 0 → post (y_classes, y_supers, y_objects, y_specials, nI (d + 1), nI oc, y_held, 3, y_steps, y_shownSteps, y_result, y_line, y_lineLength, y_has, y_sealed, y_initial, y_drafted, y_draftHas, y_draftInitial, y_lists, y_listLength, y_gone, y_classOfObject, y_slots, y_parameters, y_generic, y_single, y_special, y_kind, y_tokens, y_with, y_methodAt, y_pc, y_chosen, y_many, y_reached, y_opsAt, y_broken, y_arguments, y_operands, y_operator, y_got)) (h2 : mnN ≤ pl + 1 → ¬ y_broken d = 0 → post (y_classes, y_supers, y_objects, y_specials, nI (d + 1), nI oc, y_held, 2, y_steps, y_shownSteps, y_result, y_line, y_lineLength, y_has, y_sealed, y_initial, y_drafted, y_draftHas, y_draftInitial, y_lists, y_listLength, y_gone, y_classOfObject, y_slots, y_parameters, y_generic, y_single, y_special, y_kind, y_tokens, y_with, y_methodAt, y_pc, y_chosen, y_many, y_reached, y_opsAt, y_broken, y_arguments, y_operands, y_operator, y_got)) (h6 : pl + 1 < mnN → d = 7 → post (y_classes, y_supers, y_objects, y_specials, nI (d + 1), nI oc, y_held, 6, y_steps, y_shownSteps, y_result, y_line, y_lineLength, y_has, y_sealed, y_initial, y_drafted, y_draftHas, y_draftInitial, y_lists, y_listLength, y_gone, y_classOfObject, y_slots, y_parameters, y_generic, y_single, y_special, y_kind, y_tokens, y_with, y_methodAt, y_pc, y_chosen, y_many, y_reached, y_opsAt, y_broken, y_arguments, y_operands, y_operator, y_got)) (hn : mnN ≤ pl + 1 ∨ d = 7) : wpY_next post (y_classes, y_supers, y_objects, y_specials, nI (d + 1), nI oc, y_held, y_fault, y_steps, y_shownSteps, y_result, y_line, y_lineLength, y_has, y_sealed, y_initial, y_drafted, y_draftHas, y_draftInitial, y_lists, y_listLength, y_gone, y_classOfObject, y_slots, y_parameters, y_generic, y_single, y_special, y_kind, y_tokens, y_with, y_methodAt, y_pc, y_chosen, y_many, y_reached, y_opsAt, y_broken, y_arguments, y_operands, y_operator, y_got) := by
  unfold wpY_next
  refine nm_r (nI_pred d) ⟨pk_in d 8 hd, nm_r (e' := nI (pl + 1)) (by rw [bs_clk (by omega), eR, nI_1]) ⟨pk_in d 8 hd, ?_⟩⟩
  rw [bs_clk (n := d) (by omega), eN]
  exact pk_lt (pl + 1) mnN (fun h => pk_eq (d + 1) 8 (fun e => h6 h (by omega)) (fun e => by omega)) (fun h => ⟨pk_in d 8 hd, br_c (fun z => h3 h z) (fun z => h2 h z)⟩)
end
end
section
/-! the simulation: what is claimed -/
def cm_Q (post' : Int32 → SY → Prop) (n : Nat) (u : SY) : Prop := match u with
  | (z_classes, z_supers, z_objects, z_specials, z_depth, z_ops, z_held, z_fault, z_steps, z_shownSteps, z_result, z_line, z_lineLength, z_has, z_sealed, z_initial, z_drafted, z_draftHas, z_draftInitial, z_lists, z_listLength, z_gone, z_classOfObject, z_slots, z_parameters, z_generic, z_single, z_special, z_kind, z_tokens, z_with, z_methodAt, z_pc, z_chosen, z_many, z_reached, z_opsAt, z_broken, z_arguments, z_operands, z_operator, z_got) => wY_call_62 post' n z_classes z_supers z_objects z_specials z_depth z_ops z_held z_fault z_steps z_shownSteps z_result z_line z_lineLength z_has z_sealed z_initial z_drafted z_draftHas z_draftInitial z_lists z_listLength z_gone z_classOfObject z_slots z_parameters z_generic z_single z_special z_kind z_tokens z_with z_methodAt z_pc z_chosen z_many z_reached z_opsAt z_broken z_arguments z_operands z_operator z_got
def cm_fi (A : Nat → Nat) (s : Nat) (K : List cm_Fr) (md : Nat) : Nat := 30 * (120 - s) + 6 * cm_kl A K + 3 * K.length + md
def cm_C (nc no0 ns nd : Nat) (x_lineClass : Nat → Int32) (x_lineLength : Nat → Int32) (x_methodGeneric : Nat → Int32) (x_parameterCount : Nat → Int32) (x_specialiser : Nat → Int64) (x_tokenKind : Nat → Int32) (x_tokenValue : Nat → Int32) (x_tokenCount : Nat → Int32) (x_isSealed : Nat → Int32) (x_classHasSlot : Nat → Int32) (x_classSlot : Nat → Int32) (x_superDraft : Nat → Int32) (y_has : Nat → Int32) (y_initial : Nat → Int32) (y_draftHas : Nat → Int32) (y_draftInitial : Nat → Int32) (y_lists : Nat → Int32) (y_listLength : Nat → Int32) (y_gone : Nat → Int32) (y_single : Nat → Int32) (y_special : Nat → Int64) (y_shownSteps : Int32) : Prop := rl_cls nc x_lineClass x_lineLength ∧ rl_sup nc ns x_superDraft ∧ rl_slt nc x_classHasSlot x_classSlot y_has y_initial y_draftHas y_draftInitial ∧ rl_par x_parameterCount ∧ rl_gen x_methodGeneric ∧ rl_tok nc x_tokenKind x_tokenValue x_tokenCount ∧ rl_bod x_parameterCount x_methodGeneric x_tokenKind x_tokenValue x_tokenCount ∧ rl_spc nc no0 nd x_methodGeneric x_parameterCount x_specialiser y_single y_special ∧ rl_unq x_methodGeneric x_parameterCount x_specialiser
def cm_PW (D : (Int32 → SY → Prop) → Prop) (kk nc no0 ns nd : Nat) (x_lineClass : Nat → Int32) (x_lineLength : Nat → Int32) (x_methodGeneric : Nat → Int32) (x_parameterCount : Nat → Int32) (x_specialiser : Nat → Int64) (x_tokenKind : Nat → Int32) (x_tokenValue : Nat → Int32) (x_tokenCount : Nat → Int32) (x_isSealed : Nat → Int32) (x_classHasSlot : Nat → Int32) (x_classSlot : Nat → Int32) (x_superDraft : Nat → Int32) (y_has : Nat → Int32) (y_initial : Nat → Int32) (y_draftHas : Nat → Int32) (y_draftInitial : Nat → Int32) (y_lists : Nat → Int32) (y_listLength : Nat → Int32) (y_gone : Nat → Int32) (y_single : Nat → Int32) (y_special : Nat → Int64) (y_shownSteps : Int32) (μ : Nat) : Prop := ∀ (no s tt : Nat) (f : cm_Fr) (K : List cm_Fr) (x_objectClass : Nat → Int32) (x_objectHasSlot : Nat → Int32) (x_objectSlot : Nat → Int64) (x_frameMethod : Nat → Int32) (x_framePlace : Nat → Int32) (x_frameToken : Nat → Int32) (x_frameOperators : Nat → Int32) (x_frameArgument : Nat → Int64) (x_operatorKind : Nat → Int32) (x_operatorValue : Nat → Int32) (x_operatorLeft : Nat → Int32) (x_workedOut : Nat → Int64) (x_argument : Nat → Int64) (x_rank : Nat → Int32) (x_orderPlace : Nat → Int32) (x_enterGeneric : Int32) (x_enterPlace : Int32) (y_slots : Nat → Int64) (y_methodAt : Nat → Int32) (y_reached : Nat → Int32) (y_pc : Nat → Int32) (y_opsAt : Nat → Int32) (y_arguments : Nat → Int64) (y_operator : Nat → Int32) (y_got : Nat → Int32) (y_operands : Nat → Int64) (y_many : Nat → Int32) (y_broken : Nat → Int32) (y_chosen : Nat → Int32), cm_J nc (1) (f) (K) (s) (no) x_lineClass x_lineLength x_methodGeneric x_parameterCount x_specialiser x_tokenKind x_tokenValue x_tokenCount x_objectClass x_objectHasSlot x_objectSlot x_frameMethod x_framePlace x_frameToken x_frameOperators x_frameArgument x_operatorKind x_operatorValue x_operatorLeft x_workedOut y_slots y_methodAt y_reached y_pc y_opsAt y_arguments y_operator y_got y_operands y_many y_broken y_chosen → no0 ≤ no → cm_fi (cm_A x_parameterCount x_tokenKind x_tokenValue) s (f :: K) 0 ≤ μ → tt + cm_fi (cm_A x_parameterCount x_tokenKind x_tokenValue) s (f :: K) 0 ≤ 4000 → (∀ post' : Int32 → SY → Prop, (∃ n, wY_call_62 post' n (nI nc) (nI ns) (nI no) (nI nd) (nI (K.length + 1)) (nI (cm_ko cm_al (f :: K))) (nI (cm_kv cm_al (f :: K))) 0 (nI s) y_shownSteps (-9223372036854775808) x_lineClass x_lineLength y_has x_isSealed y_initial x_superDraft y_draftHas y_draftInitial y_lists y_listLength y_gone x_objectClass y_slots x_parameterCount x_methodGeneric y_single y_special x_tokenKind x_tokenCount x_tokenValue y_methodAt y_pc y_chosen y_many y_reached y_opsAt y_broken y_arguments y_operands y_operator y_got) → D post') → ∀ n, cm_fi (cm_A x_parameterCount x_tokenKind x_tokenValue) s (f :: K) 0 < n → wX_call_23 (fun r u' => D (fun r' v' => r' = r ∧ i_Rel kk u' v')) n (nI tt) (nI nc) (nI ns) (nI no) (nI nd) (-2) (nI s) (-9223372036854775808) x_enterGeneric x_enterPlace (nI (K.length + 1)) (nI (cm_ko (cm_vx x_tokenKind) (f :: K))) (nI (cm_kv (cm_vx x_tokenKind) (f :: K))) x_lineClass x_lineLength x_isSealed x_classHasSlot x_classSlot x_superDraft x_objectClass x_objectHasSlot x_objectSlot x_parameterCount x_methodGeneric x_specialiser x_tokenKind x_tokenValue x_tokenCount x_argument x_rank x_orderPlace x_frameMethod x_framePlace x_frameToken x_frameOperators x_frameArgument x_operatorKind x_operatorValue x_operatorLeft x_workedOut
def cm_PT (D : (Int32 → SY → Prop) → Prop) (kk nc no0 ns nd : Nat) (x_lineClass : Nat → Int32) (x_lineLength : Nat → Int32) (x_methodGeneric : Nat → Int32) (x_parameterCount : Nat → Int32) (x_specialiser : Nat → Int64) (x_tokenKind : Nat → Int32) (x_tokenValue : Nat → Int32) (x_tokenCount : Nat → Int32) (x_isSealed : Nat → Int32) (x_classHasSlot : Nat → Int32) (x_classSlot : Nat → Int32) (x_superDraft : Nat → Int32) (y_has : Nat → Int32) (y_initial : Nat → Int32) (y_draftHas : Nat → Int32) (y_draftInitial : Nat → Int32) (y_lists : Nat → Int32) (y_listLength : Nat → Int32) (y_gone : Nat → Int32) (y_single : Nat → Int32) (y_special : Nat → Int64) (y_shownSteps : Int32) (μ : Nat) : Prop := ∀ (no s tt : Nat) (v : Int64) (f : cm_Fr) (K : List cm_Fr) (x_objectClass : Nat → Int32) (x_objectHasSlot : Nat → Int32) (x_objectSlot : Nat → Int64) (x_frameMethod : Nat → Int32) (x_framePlace : Nat → Int32) (x_frameToken : Nat → Int32) (x_frameOperators : Nat → Int32) (x_frameArgument : Nat → Int64) (x_operatorKind : Nat → Int32) (x_operatorValue : Nat → Int32) (x_operatorLeft : Nat → Int32) (x_workedOut : Nat → Int64) (x_argument : Nat → Int64) (x_rank : Nat → Int32) (x_orderPlace : Nat → Int32) (x_enterGeneric : Int32) (x_enterPlace : Int32) (y_slots : Nat → Int64) (y_methodAt : Nat → Int32) (y_reached : Nat → Int32) (y_pc : Nat → Int32) (y_opsAt : Nat → Int32) (y_arguments : Nat → Int64) (y_operator : Nat → Int32) (y_got : Nat → Int32) (y_operands : Nat → Int64) (y_many : Nat → Int32) (y_broken : Nat → Int32) (y_chosen : Nat → Int32), cm_J nc (0) (f) (K) (s) (no) x_lineClass x_lineLength x_methodGeneric x_parameterCount x_specialiser x_tokenKind x_tokenValue x_tokenCount x_objectClass x_objectHasSlot x_objectSlot x_frameMethod x_framePlace x_frameToken x_frameOperators x_frameArgument x_operatorKind x_operatorValue x_operatorLeft x_workedOut y_slots y_methodAt y_reached y_pc y_opsAt y_arguments y_operator y_got y_operands y_many y_broken y_chosen → no0 ≤ no → rl_val no v → x_workedOut (cm_kv (cm_vx x_tokenKind) (f :: K)) = v → cm_fi (cm_A x_parameterCount x_tokenKind x_tokenValue) s (f :: K) 1 ≤ μ → tt + cm_fi (cm_A x_parameterCount x_tokenKind x_tokenValue) s (f :: K) 1 ≤ 4000 → (∀ post' : Int32 → SY → Prop, (∃ n n5, wY_deliver_5 (cm_Q post' n) n5 v 1 (nI nc) (nI ns) (nI no) (nI nd) (nI (K.length + 1)) (nI (cm_ko cm_al (f :: K))) (nI (cm_kv cm_al (f :: K))) 0 (nI s) y_shownSteps (-9223372036854775808) x_lineClass x_lineLength y_has x_isSealed y_initial x_superDraft y_draftHas y_draftInitial y_lists y_listLength y_gone x_objectClass y_slots x_parameterCount x_methodGeneric y_single y_special x_tokenKind x_tokenCount x_tokenValue y_methodAt y_pc y_chosen y_many y_reached y_opsAt y_broken y_arguments y_operands y_operator y_got) → D post') → ∀ n, cm_fi (cm_A x_parameterCount x_tokenKind x_tokenValue) s (f :: K) 1 < n → wX_call_23 (fun r u' => D (fun r' v' => r' = r ∧ i_Rel kk u' v')) n (nI tt) (nI nc) (nI ns) (nI no) (nI nd) (-3) (nI s) (-9223372036854775808) x_enterGeneric x_enterPlace (nI (K.length + 1)) (nI (cm_ko (cm_vx x_tokenKind) (f :: K))) (nI (cm_kv (cm_vx x_tokenKind) (f :: K) + 1)) x_lineClass x_lineLength x_isSealed x_classHasSlot x_classSlot x_superDraft x_objectClass x_objectHasSlot x_objectSlot x_parameterCount x_methodGeneric x_specialiser x_tokenKind x_tokenValue x_tokenCount x_argument x_rank x_orderPlace x_frameMethod x_framePlace x_frameToken x_frameOperators x_frameArgument x_operatorKind x_operatorValue x_operatorLeft x_workedOut
section
variable {x_classCount : Int32} {x_superCount : Int32} {x_objectCount : Int32} {x_draftSpecialCount : Int32} {x_state : Int32} {x_stepCount : Int32} {x_latestValue : Int64} {x_enterGeneric : Int32} {x_enterPlace : Int32} {x_frameCount : Int32} {x_operatorCount : Int32} {x_valueCount : Int32} {x_lineClass : Nat → Int32} {x_lineLength : Nat → Int32} {x_isSealed : Nat → Int32} {x_classHasSlot : Nat → Int32} {x_classSlot : Nat → Int32} {x_superDraft : Nat → Int32} {x_objectClass : Nat → Int32} {x_objectHasSlot : Nat → Int32} {x_objectSlot : Nat → Int64} {x_parameterCount : Nat → Int32} {x_methodGeneric : Nat → Int32} {x_specialiser : Nat → Int64} {x_tokenKind : Nat → Int32} {x_tokenValue : Nat → Int32} {x_tokenCount : Nat → Int32} {x_argument : Nat → Int64} {x_rank : Nat → Int32} {x_orderPlace : Nat → Int32} {x_frameMethod : Nat → Int32} {x_framePlace : Nat → Int32} {x_frameToken : Nat → Int32} {x_frameOperators : Nat → Int32} {x_frameArgument : Nat → Int64} {x_operatorKind : Nat → Int32} {x_operatorValue : Nat → Int32} {x_operatorLeft : Nat → Int32} {x_workedOut : Nat → Int64} {y_classes : Int32} {y_supers : Int32} {y_objects : Int32} {y_specials : Int32} {y_depth : Int32} {y_ops : Int32} {y_held : Int32} {y_fault : Int32} {y_steps : Int32} {y_shownSteps : Int32} {y_result : Int64} {y_line : Nat → Int32} {y_lineLength : Nat → Int32} {y_has : Nat → Int32} {y_sealed : Nat → Int32} {y_initial : Nat → Int32} {y_drafted : Nat → Int32} {y_draftHas : Nat → Int32} {y_draftInitial : Nat → Int32} {y_lists : Nat → Int32} {y_listLength : Nat → Int32} {y_gone : Nat → Int32} {y_classOfObject : Nat → Int32} {y_slots : Nat → Int64} {y_parameters : Nat → Int32} {y_generic : Nat → Int32} {y_single : Nat → Int32} {y_special : Nat → Int64} {y_kind : Nat → Int32} {y_tokens : Nat → Int32} {y_with : Nat → Int32} {y_methodAt : Nat → Int32} {y_pc : Nat → Int32} {y_chosen : Nat → Int32} {y_many : Nat → Int32} {y_reached : Nat → Int32} {y_opsAt : Nat → Int32} {y_broken : Nat → Int32} {y_arguments : Nat → Int64} {y_operands : Nat → Int64} {y_operator : Nat → Int32} {y_got : Nat → Int32} {D : (Int32 → SY → Prop) → Prop} {kk nc no0 ns nd : Nat}
theorem my_cl_work {post' : Int32 → SY → Prop} {n d : Nat} (hd : d < 100) (h : wpY_work (cm_Q post' n) (y_classes, y_supers, y_objects, y_specials, nI (d + 1), y_ops, y_held, 0, y_steps, y_shownSteps, y_result, y_line, y_lineLength, y_has, y_sealed, y_initial, y_drafted, y_draftHas, y_draftInitial, y_lists, y_listLength, y_gone, y_classOfObject, y_slots, y_parameters, y_generic, y_single, y_special, y_kind, y_tokens, y_with, y_methodAt, y_pc, y_chosen, y_many, y_reached, y_opsAt, y_broken, y_arguments, y_operands, y_operator, y_got)) : wY_call_62 post' (n + 1) y_classes y_supers y_objects y_specials (nI (d + 1)) y_ops y_held 0 y_steps y_shownSteps y_result y_line y_lineLength y_has y_sealed y_initial y_drafted y_draftHas y_draftInitial y_lists y_listLength y_gone y_classOfObject y_slots y_parameters y_generic y_single y_special y_kind y_tokens y_with y_methodAt y_pc y_chosen y_many y_reached y_opsAt y_broken y_arguments y_operands y_operator y_got :=
  br_f (nI_nle (by omega) (by omega)) (br_t rfl (cm_eta (fun t => by obtain ⟨z_classes, z_supers, z_objects, z_specials, z_depth, z_ops, z_held, z_fault, z_steps, z_shownSteps, z_result, z_line, z_lineLength, z_has, z_sealed, z_initial, z_drafted, z_draftHas, z_draftInitial, z_lists, z_listLength, z_gone, z_classOfObject, z_slots, z_parameters, z_generic, z_single, z_special, z_kind, z_tokens, z_with, z_methodAt, z_pc, z_chosen, z_many, z_reached, z_opsAt, z_broken, z_arguments, z_operands, z_operator, z_got⟩ := t; rfl) (C := fun Q => wpY_work Q _) h))
theorem my_cl_fault {post' : Int32 → SY → Prop} {n : Nat} {F : Int32} (hF : ¬ F = 0) (h : post' F (y_classes, y_supers, y_objects, y_specials, y_depth, y_ops, y_held, F, y_steps, y_steps, -9223372036854775808, y_line, y_lineLength, y_has, y_sealed, y_initial, y_drafted, y_draftHas, y_draftInitial, y_lists, y_listLength, y_gone, y_classOfObject, y_slots, y_parameters, y_generic, y_single, y_special, y_kind, y_tokens, y_with, y_methodAt, y_pc, y_chosen, y_many, y_reached, y_opsAt, y_broken, y_arguments, y_operands, y_operator, y_got)) : wY_call_62 post' (n + 1) y_classes y_supers y_objects y_specials y_depth y_ops y_held F y_steps y_shownSteps y_result y_line y_lineLength y_has y_sealed y_initial y_drafted y_draftHas y_draftInitial y_lists y_listLength y_gone y_classOfObject y_slots y_parameters y_generic y_single y_special y_kind y_tokens y_with y_methodAt y_pc y_chosen y_many y_reached y_opsAt y_broken y_arguments y_operands y_operator y_got :=
  br_c (fun _ => br_f hF h) (fun _ => br_f hF (br_f hF h))
theorem my_cl_ok {post' : Int32 → SY → Prop} {n : Nat} (h : post' 0 (y_classes, y_supers, y_objects, y_specials, nI 0, y_ops, y_held, 0, y_steps, y_steps, y_result, y_line, y_lineLength, y_has, y_sealed, y_initial, y_drafted, y_draftHas, y_draftInitial, y_lists, y_listLength, y_gone, y_classOfObject, y_slots, y_parameters, y_generic, y_single, y_special, y_kind, y_tokens, y_with, y_methodAt, y_pc, y_chosen, y_many, y_reached, y_opsAt, y_broken, y_arguments, y_operands, y_operator, y_got)) : wY_call_62 post' (n + 1) y_classes y_supers y_objects y_specials (nI 0) y_ops y_held 0 y_steps y_shownSteps y_result y_line y_lineLength y_has y_sealed y_initial y_drafted y_draftHas y_draftInitial y_lists y_listLength y_gone y_classOfObject y_slots y_parameters y_generic y_single y_special y_kind y_tokens y_with y_methodAt y_pc y_chosen y_many y_reached y_opsAt y_broken y_arguments y_operands y_operator y_got :=
  br_t (by decide) (br_t rfl h)
theorem mx_cl_end {post : Int32 → SX → Prop} {n : Nat} {x8 st : Int32} (hst : 0 ≤ st) (h : post st (x_classCount, x_superCount, x_objectCount, x_draftSpecialCount, st, x_stepCount, x_latestValue, x_enterGeneric, x_enterPlace, x_frameCount, x_operatorCount, x_valueCount, x_lineClass, x_lineLength, x_isSealed, x_classHasSlot, x_classSlot, x_superDraft, x_objectClass, x_objectHasSlot, x_objectSlot, x_parameterCount, x_methodGeneric, x_specialiser, x_tokenKind, x_tokenValue, x_tokenCount, x_argument, x_rank, x_orderPlace, x_frameMethod, x_framePlace, x_frameToken, x_frameOperators, x_frameArgument, x_operatorKind, x_operatorValue, x_operatorLeft, x_workedOut)) : wX_call_23 post (n + 1) x8 x_classCount x_superCount x_objectCount x_draftSpecialCount st x_stepCount x_latestValue x_enterGeneric x_enterPlace x_frameCount x_operatorCount x_valueCount x_lineClass x_lineLength x_isSealed x_classHasSlot x_classSlot x_superDraft x_objectClass x_objectHasSlot x_objectSlot x_parameterCount x_methodGeneric x_specialiser x_tokenKind x_tokenValue x_tokenCount x_argument x_rank x_orderPlace x_frameMethod x_framePlace x_frameToken x_frameOperators x_frameArgument x_operatorKind x_operatorValue x_operatorLeft x_workedOut :=
  br_c (fun _ => h) (fun _ => br_t hst h)
theorem mx_cl_W {post : Int32 → SX → Prop} {n tt : Nat} (ht : tt < 1000000) (h : ∀ P : SX → Prop, (∀ (z_classCount : Int32) (z_superCount : Int32) (z_objectCount : Int32) (z_draftSpecialCount : Int32) (z_state : Int32) (z_stepCount : Int32) (z_latestValue : Int64) (z_enterGeneric : Int32) (z_enterPlace : Int32) (z_frameCount : Int32) (z_operatorCount : Int32) (z_valueCount : Int32) (z_lineClass : Nat → Int32) (z_lineLength : Nat → Int32) (z_isSealed : Nat → Int32) (z_classHasSlot : Nat → Int32) (z_classSlot : Nat → Int32) (z_superDraft : Nat → Int32) (z_objectClass : Nat → Int32) (z_objectHasSlot : Nat → Int32) (z_objectSlot : Nat → Int64) (z_parameterCount : Nat → Int32) (z_methodGeneric : Nat → Int32) (z_specialiser : Nat → Int64) (z_tokenKind : Nat → Int32) (z_tokenValue : Nat → Int32) (z_tokenCount : Nat → Int32) (z_argument : Nat → Int64) (z_rank : Nat → Int32) (z_orderPlace : Nat → Int32) (z_frameMethod : Nat → Int32) (z_framePlace : Nat → Int32) (z_frameToken : Nat → Int32) (z_frameOperators : Nat → Int32) (z_frameArgument : Nat → Int64) (z_operatorKind : Nat → Int32) (z_operatorValue : Nat → Int32) (z_operatorLeft : Nat → Int32) (z_workedOut : Nat → Int64), wX_call_23 post n (nI (tt + 1)) z_classCount z_superCount z_objectCount z_draftSpecialCount z_state z_stepCount z_latestValue z_enterGeneric z_enterPlace z_frameCount z_operatorCount z_valueCount z_lineClass z_lineLength z_isSealed z_classHasSlot z_classSlot z_superDraft z_objectClass z_objectHasSlot z_objectSlot z_parameterCount z_methodGeneric z_specialiser z_tokenKind z_tokenValue z_tokenCount z_argument z_rank z_orderPlace z_frameMethod z_framePlace z_frameToken z_frameOperators z_frameArgument z_operatorKind z_operatorValue z_operatorLeft z_workedOut → P (z_classCount, z_superCount, z_objectCount, z_draftSpecialCount, z_state, z_stepCount, z_latestValue, z_enterGeneric, z_enterPlace, z_frameCount, z_operatorCount, z_valueCount, z_lineClass, z_lineLength, z_isSealed, z_classHasSlot, z_classSlot, z_superDraft, z_objectClass, z_objectHasSlot, z_objectSlot, z_parameterCount, z_methodGeneric, z_specialiser, z_tokenKind, z_tokenValue, z_tokenCount, z_argument, z_rank, z_orderPlace, z_frameMethod, z_framePlace, z_frameToken, z_frameOperators, z_frameArgument, z_operatorKind, z_operatorValue, z_operatorLeft, z_workedOut)) → wpX_workToken P (x_classCount, x_superCount, x_objectCount, x_draftSpecialCount, -2, x_stepCount, x_latestValue, x_enterGeneric, x_enterPlace, x_frameCount, x_operatorCount, x_valueCount, x_lineClass, x_lineLength, x_isSealed, x_classHasSlot, x_classSlot, x_superDraft, x_objectClass, x_objectHasSlot, x_objectSlot, x_parameterCount, x_methodGeneric, x_specialiser, x_tokenKind, x_tokenValue, x_tokenCount, x_argument, x_rank, x_orderPlace, x_frameMethod, x_framePlace, x_frameToken, x_frameOperators, x_frameArgument, x_operatorKind, x_operatorValue, x_operatorLeft, x_workedOut)) : wX_call_23 post (n + 1) (nI tt) x_classCount x_superCount x_objectCount x_draftSpecialCount (-2) x_stepCount x_latestValue x_enterGeneric x_enterPlace x_frameCount x_operatorCount x_valueCount x_lineClass x_lineLength x_isSealed x_classHasSlot x_classSlot x_superDraft x_objectClass x_objectHasSlot x_objectSlot x_parameterCount x_methodGeneric x_specialiser x_tokenKind x_tokenValue x_tokenCount x_argument x_rank x_orderPlace x_frameMethod x_framePlace x_frameToken x_frameOperators x_frameArgument x_operatorKind x_operatorValue x_operatorLeft x_workedOut := by
  refine br_f (nI_ge (b := 1000000) ht (by omega)) (br_f (by decide) (br_f (by decide) (br_t rfl (h _ ?_))))
  intros
  exact nm_r (nI_1 tt) (by assumption)
theorem mx_cl_T {post : Int32 → SX → Prop} {n tt : Nat} (ht : tt < 1000000) (h : ∀ P : SX → Prop, (∀ (z_classCount : Int32) (z_superCount : Int32) (z_objectCount : Int32) (z_draftSpecialCount : Int32) (z_state : Int32) (z_stepCount : Int32) (z_latestValue : Int64) (z_enterGeneric : Int32) (z_enterPlace : Int32) (z_frameCount : Int32) (z_operatorCount : Int32) (z_valueCount : Int32) (z_lineClass : Nat → Int32) (z_lineLength : Nat → Int32) (z_isSealed : Nat → Int32) (z_classHasSlot : Nat → Int32) (z_classSlot : Nat → Int32) (z_superDraft : Nat → Int32) (z_objectClass : Nat → Int32) (z_objectHasSlot : Nat → Int32) (z_objectSlot : Nat → Int64) (z_parameterCount : Nat → Int32) (z_methodGeneric : Nat → Int32) (z_specialiser : Nat → Int64) (z_tokenKind : Nat → Int32) (z_tokenValue : Nat → Int32) (z_tokenCount : Nat → Int32) (z_argument : Nat → Int64) (z_rank : Nat → Int32) (z_orderPlace : Nat → Int32) (z_frameMethod : Nat → Int32) (z_framePlace : Nat → Int32) (z_frameToken : Nat → Int32) (z_frameOperators : Nat → Int32) (z_frameArgument : Nat → Int64) (z_operatorKind : Nat → Int32) (z_operatorValue : Nat → Int32) (z_operatorLeft : Nat → Int32) (z_workedOut : Nat → Int64), wX_call_23 post n (nI (tt + 1)) z_classCount z_superCount z_objectCount z_draftSpecialCount z_state z_stepCount z_latestValue z_enterGeneric z_enterPlace z_frameCount z_operatorCount z_valueCount z_lineClass z_lineLength z_isSealed z_classHasSlot z_classSlot z_superDraft z_objectClass z_objectHasSlot z_objectSlot z_parameterCount z_methodGeneric z_specialiser z_tokenKind z_tokenValue z_tokenCount z_argument z_rank z_orderPlace z_frameMethod z_framePlace z_frameToken z_frameOperators z_frameArgument z_operatorKind z_operatorValue z_operatorLeft z_workedOut → P (z_classCount, z_superCount, z_objectCount, z_draftSpecialCount, z_state, z_stepCount, z_latestValue, z_enterGeneric, z_enterPlace, z_frameCount, z_operatorCount, z_valueCount, z_lineClass, z_lineLength, z_isSealed, z_classHasSlot, z_classSlot, z_superDraft, z_objectClass, z_objectHasSlot, z_objectSlot, z_parameterCount, z_methodGeneric, z_specialiser, z_tokenKind, z_tokenValue, z_tokenCount, z_argument, z_rank, z_orderPlace, z_frameMethod, z_framePlace, z_frameToken, z_frameOperators, z_frameArgument, z_operatorKind, z_operatorValue, z_operatorLeft, z_workedOut)) → wpX_takeValue P (x_classCount, x_superCount, x_objectCount, x_draftSpecialCount, -3, x_stepCount, x_latestValue, x_enterGeneric, x_enterPlace, x_frameCount, x_operatorCount, x_valueCount, x_lineClass, x_lineLength, x_isSealed, x_classHasSlot, x_classSlot, x_superDraft, x_objectClass, x_objectHasSlot, x_objectSlot, x_parameterCount, x_methodGeneric, x_specialiser, x_tokenKind, x_tokenValue, x_tokenCount, x_argument, x_rank, x_orderPlace, x_frameMethod, x_framePlace, x_frameToken, x_frameOperators, x_frameArgument, x_operatorKind, x_operatorValue, x_operatorLeft, x_workedOut)) : wX_call_23 post (n + 1) (nI tt) x_classCount x_superCount x_objectCount x_draftSpecialCount (-3) x_stepCount x_latestValue x_enterGeneric x_enterPlace x_frameCount x_operatorCount x_valueCount x_lineClass x_lineLength x_isSealed x_classHasSlot x_classSlot x_superDraft x_objectClass x_objectHasSlot x_objectSlot x_parameterCount x_methodGeneric x_specialiser x_tokenKind x_tokenValue x_tokenCount x_argument x_rank x_orderPlace x_frameMethod x_framePlace x_frameToken x_frameOperators x_frameArgument x_operatorKind x_operatorValue x_operatorLeft x_workedOut := by
  refine br_f (nI_ge (b := 1000000) ht (by omega)) (br_f (by decide) (br_f (by decide) (br_f (by decide) (h _ ?_))))
  intros
  exact nm_r (nI_1 tt) (by assumption)
theorem mx_cl_E {post : Int32 → SX → Prop} {n tt : Nat} (ht : tt < 1000000) (h : ∀ P : SX → Prop, (∀ (z_classCount : Int32) (z_superCount : Int32) (z_objectCount : Int32) (z_draftSpecialCount : Int32) (z_state : Int32) (z_stepCount : Int32) (z_latestValue : Int64) (z_enterGeneric : Int32) (z_enterPlace : Int32) (z_frameCount : Int32) (z_operatorCount : Int32) (z_valueCount : Int32) (z_lineClass : Nat → Int32) (z_lineLength : Nat → Int32) (z_isSealed : Nat → Int32) (z_classHasSlot : Nat → Int32) (z_classSlot : Nat → Int32) (z_superDraft : Nat → Int32) (z_objectClass : Nat → Int32) (z_objectHasSlot : Nat → Int32) (z_objectSlot : Nat → Int64) (z_parameterCount : Nat → Int32) (z_methodGeneric : Nat → Int32) (z_specialiser : Nat → Int64) (z_tokenKind : Nat → Int32) (z_tokenValue : Nat → Int32) (z_tokenCount : Nat → Int32) (z_argument : Nat → Int64) (z_rank : Nat → Int32) (z_orderPlace : Nat → Int32) (z_frameMethod : Nat → Int32) (z_framePlace : Nat → Int32) (z_frameToken : Nat → Int32) (z_frameOperators : Nat → Int32) (z_frameArgument : Nat → Int64) (z_operatorKind : Nat → Int32) (z_operatorValue : Nat → Int32) (z_operatorLeft : Nat → Int32) (z_workedOut : Nat → Int64), wX_call_23 post n (nI (tt + 1)) z_classCount z_superCount z_objectCount z_draftSpecialCount z_state z_stepCount z_latestValue z_enterGeneric z_enterPlace z_frameCount z_operatorCount z_valueCount z_lineClass z_lineLength z_isSealed z_classHasSlot z_classSlot z_superDraft z_objectClass z_objectHasSlot z_objectSlot z_parameterCount z_methodGeneric z_specialiser z_tokenKind z_tokenValue z_tokenCount z_argument z_rank z_orderPlace z_frameMethod z_framePlace z_frameToken z_frameOperators z_frameArgument z_operatorKind z_operatorValue z_operatorLeft z_workedOut → P (z_classCount, z_superCount, z_objectCount, z_draftSpecialCount, z_state, z_stepCount, z_latestValue, z_enterGeneric, z_enterPlace, z_frameCount, z_operatorCount, z_valueCount, z_lineClass, z_lineLength, z_isSealed, z_classHasSlot, z_classSlot, z_superDraft, z_objectClass, z_objectHasSlot, z_objectSlot, z_parameterCount, z_methodGeneric, z_specialiser, z_tokenKind, z_tokenValue, z_tokenCount, z_argument, z_rank, z_orderPlace, z_frameMethod, z_framePlace, z_frameToken, z_frameOperators, z_frameArgument, z_operatorKind, z_operatorValue, z_operatorLeft, z_workedOut)) → wpX_enterMethod P (x_classCount, x_superCount, x_objectCount, x_draftSpecialCount, -1, x_stepCount, x_latestValue, x_enterGeneric, x_enterPlace, x_frameCount, x_operatorCount, x_valueCount, x_lineClass, x_lineLength, x_isSealed, x_classHasSlot, x_classSlot, x_superDraft, x_objectClass, x_objectHasSlot, x_objectSlot, x_parameterCount, x_methodGeneric, x_specialiser, x_tokenKind, x_tokenValue, x_tokenCount, x_argument, x_rank, x_orderPlace, x_frameMethod, x_framePlace, x_frameToken, x_frameOperators, x_frameArgument, x_operatorKind, x_operatorValue, x_operatorLeft, x_workedOut)) : wX_call_23 post (n + 1) (nI tt) x_classCount x_superCount x_objectCount x_draftSpecialCount (-1) x_stepCount x_latestValue x_enterGeneric x_enterPlace x_frameCount x_operatorCount x_valueCount x_lineClass x_lineLength x_isSealed x_classHasSlot x_classSlot x_superDraft x_objectClass x_objectHasSlot x_objectSlot x_parameterCount x_methodGeneric x_specialiser x_tokenKind x_tokenValue x_tokenCount x_argument x_rank x_orderPlace x_frameMethod x_framePlace x_frameToken x_frameOperators x_frameArgument x_operatorKind x_operatorValue x_operatorLeft x_workedOut := by
  refine br_f (nI_ge (b := 1000000) ht (by omega)) (br_f (by decide) (br_t rfl (h _ ?_)))
  intros
  exact nm_r (nI_1 tt) (by assumption)
theorem cm_done {no s : Nat} {V : Int64} (hC : cm_C nc no0 ns nd x_lineClass x_lineLength x_methodGeneric x_parameterCount x_specialiser x_tokenKind x_tokenValue x_tokenCount x_isSealed x_classHasSlot x_classSlot x_superDraft y_has y_initial y_draftHas y_draftInitial y_lists y_listLength y_gone y_single y_special y_shownSteps) (hn : no0 ≤ no) (ho : rl_obj nc no x_objectClass x_objectHasSlot x_objectSlot y_slots) : i_Rel kk (nI nc, nI ns, nI no, nI nd, x_state, nI s, V, x_enterGeneric, x_enterPlace, x_frameCount, x_operatorCount, x_valueCount, x_lineClass, x_lineLength, x_isSealed, x_classHasSlot, x_classSlot, x_superDraft, x_objectClass, x_objectHasSlot, x_objectSlot, x_parameterCount, x_methodGeneric, x_specialiser, x_tokenKind, x_tokenValue, x_tokenCount, x_argument, x_rank, x_orderPlace, x_frameMethod, x_framePlace, x_frameToken, x_frameOperators, x_frameArgument, x_operatorKind, x_operatorValue, x_operatorLeft, x_workedOut) (nI nc, nI ns, nI no, nI nd, y_depth, y_ops, y_held, y_fault, y_steps, nI s, V, x_lineClass, x_lineLength, y_has, x_isSealed, y_initial, x_superDraft, y_draftHas, y_draftInitial, y_lists, y_listLength, y_gone, x_objectClass, y_slots, x_parameterCount, x_methodGeneric, y_single, y_special, x_tokenKind, x_tokenCount, x_tokenValue, y_methodAt, y_pc, y_chosen, y_many, y_reached, y_opsAt, y_broken, y_arguments, y_operands, y_operator, y_got) := by
  obtain ⟨c1, c2, c3, c4, c5, c6, c7, c8, c9⟩ := hC
  exact ⟨nc, no, ns, nd, rfl, rfl, rfl, rfl, rfl, rfl, rfl, rfl, rfl, rfl, rfl, rfl, rfl, rfl, rfl, rfl, rfl, rfl, rfl, rfl, c1, c2, c3, ho, c4, c5, c6, c7, mk_spc hn c8, c9⟩
/-- a fault ends both -/
theorem cm_halt {no s tt : Nat} {F : Int32} (hF0 : ¬ F = 0) (hF : 0 ≤ F) (hC : cm_C nc no0 ns nd x_lineClass x_lineLength x_methodGeneric x_parameterCount x_specialiser x_tokenKind x_tokenValue x_tokenCount x_isSealed x_classHasSlot x_classSlot x_superDraft y_has y_initial y_draftHas y_draftInitial y_lists y_listLength y_gone y_single y_special y_shownSteps) (hn : no0 ≤ no) (ho : rl_obj nc no x_objectClass x_objectHasSlot x_objectSlot y_slots) (hY : ∀ post' : Int32 → SY → Prop, (∃ n, wY_call_62 post' n (nI nc) (nI ns) (nI no) (nI nd) y_depth y_ops y_held F (nI s) y_shownSteps (-9223372036854775808) x_lineClass x_lineLength y_has x_isSealed y_initial x_superDraft y_draftHas y_draftInitial y_lists y_listLength y_gone x_objectClass y_slots x_parameterCount x_methodGeneric y_single y_special x_tokenKind x_tokenCount x_tokenValue y_methodAt y_pc y_chosen y_many y_reached y_opsAt y_broken y_arguments y_operands y_operator y_got) → D post') : ∀ n, 0 < n → wX_call_23 (fun r u' => D (fun r' v' => r' = r ∧ i_Rel kk u' v')) n (nI tt) (nI nc) (nI ns) (nI no) (nI nd) F (nI s) (-9223372036854775808) x_enterGeneric x_enterPlace x_frameCount x_operatorCount x_valueCount x_lineClass x_lineLength x_isSealed x_classHasSlot x_classSlot x_superDraft x_objectClass x_objectHasSlot x_objectSlot x_parameterCount x_methodGeneric x_specialiser x_tokenKind x_tokenValue x_tokenCount x_argument x_rank x_orderPlace x_frameMethod x_framePlace x_frameToken x_frameOperators x_frameArgument x_operatorKind x_operatorValue x_operatorLeft x_workedOut := by
  intro n hn0
  obtain ⟨n1, rfl⟩ : ∃ n1, n = n1 + 1 := ⟨n - 1, by omega⟩
  exact mx_cl_end hF (hY _ ⟨1, my_cl_fault hF0 ⟨rfl, cm_done hC hn ho⟩⟩)
theorem cm_E_push {μ no s tt m pl g p t : Nat} {ar : Nat → Int64} {K : List cm_Fr} {fA' ag' : Nat → Int64} {ch' mn' bk' : Nat → Int32} (hC : cm_C nc no0 ns nd x_lineClass x_lineLength x_methodGeneric x_parameterCount x_specialiser x_tokenKind x_tokenValue x_tokenCount x_isSealed x_classHasSlot x_classSlot x_superDraft y_has y_initial y_draftHas y_draftInitial y_lists y_listLength y_gone y_single y_special y_shownSteps) (ihW : cm_PW D kk nc no0 ns nd x_lineClass x_lineLength x_methodGeneric x_parameterCount x_specialiser x_tokenKind x_tokenValue x_tokenCount x_isSealed x_classHasSlot x_classSlot x_superDraft y_has y_initial y_draftHas y_draftInitial y_lists y_listLength y_gone y_single y_special y_shownSteps μ) (hV : cm_V nc K s no x_lineClass x_lineLength x_methodGeneric x_parameterCount x_specialiser x_tokenKind x_tokenValue x_tokenCount x_objectClass x_objectHasSlot x_objectSlot x_frameMethod x_framePlace x_frameToken x_frameOperators x_frameArgument x_operatorKind x_operatorValue x_operatorLeft x_workedOut y_slots y_methodAt y_reached y_pc y_opsAt y_arguments y_operator y_got y_operands y_many y_broken y_chosen) (hn : no0 ≤ no) (hK : K.length < 8) (hg : g < 5) (hp1 : 1 ≤ p) (hp3 : p ≤ 3) (ep : x_parameterCount g = nI p) (hv : ∀ q, q < p → rl_val no (ar q)) (hpl : pl < or_mn (or_R x_lineClass x_lineLength x_objectClass x_specialiser ar p) p (or_L x_methodGeneric (or_R x_lineClass x_lineLength x_objectClass x_specialiser ar p) g p)) (em : m = or_ld (or_R x_lineClass x_lineLength x_objectClass x_specialiser ar p) p (or_sq (or_R x_lineClass x_lineLength x_objectClass x_specialiser ar p) p (or_L x_methodGeneric (or_R x_lineClass x_lineLength x_objectClass x_specialiser ar p) g p) pl)) (hfA : ∀ q, q < p → fA' (3 * K.length + q) = ar q) (hfA2 : ∀ j, j < 3 * K.length → fA' j = x_frameArgument j) (hag : ∀ q, q < p → ag' (3 * K.length + q) = ar q) (hag2 : ∀ j, j < 3 * K.length → ag' j = y_arguments j)
    (s1 : mn' K.length = nI (or_mn (or_R x_lineClass x_lineLength x_objectClass x_specialiser ar p) p (or_L x_methodGeneric (or_R x_lineClass x_lineLength x_objectClass x_specialiser ar p) g p))) (s2 : bk' K.length = bs_ci (or_sq (or_R x_lineClass x_lineLength x_objectClass x_specialiser ar p) p (or_L x_methodGeneric (or_R x_lineClass x_lineLength x_objectClass x_specialiser ar p) g p) (or_mn (or_R x_lineClass x_lineLength x_objectClass x_specialiser ar p) p (or_L x_methodGeneric (or_R x_lineClass x_lineLength x_objectClass x_specialiser ar p) g p)) = 0) 0 1) (s3 : ∀ j, j < or_mn (or_R x_lineClass x_lineLength x_objectClass x_specialiser ar p) p (or_L x_methodGeneric (or_R x_lineClass x_lineLength x_objectClass x_specialiser ar p) g p) → ch' (24 * K.length + j) = nI (or_ld (or_R x_lineClass x_lineLength x_objectClass x_specialiser ar p) p (or_sq (or_R x_lineClass x_lineLength x_objectClass x_specialiser ar p) p (or_L x_methodGeneric (or_R x_lineClass x_lineLength x_objectClass x_specialiser ar p) g p) j))) (s4 : ∀ j, j < K.length → mn' j = y_many j ∧ bk' j = y_broken j) (s5 : ∀ j, j < 24 * K.length → ch' j = y_chosen j) (hmu : cm_fi (cm_A x_parameterCount x_tokenKind x_tokenValue) s K 3 ≤ μ) (htt : tt + cm_fi (cm_A x_parameterCount x_tokenKind x_tokenValue) s K 3 ≤ 4000)
    (hY : ∀ post' : Int32 → SY → Prop, (∃ n, wY_call_62 post' n (nI nc) (nI ns) (nI no) (nI nd) (nI (K.length + 1)) (nI (cm_ko cm_al K)) (nI (cm_kv cm_al K)) 0 (nI s) y_shownSteps (-9223372036854775808) x_lineClass x_lineLength y_has x_isSealed y_initial x_superDraft y_draftHas y_draftInitial y_lists y_listLength y_gone x_objectClass y_slots x_parameterCount x_methodGeneric y_single y_special x_tokenKind x_tokenCount x_tokenValue (upd y_methodAt K.length (nI m)) (upd y_pc K.length 0) ch' mn' (upd y_reached K.length (nI pl)) (upd y_opsAt K.length (nI (cm_ko cm_al K))) bk' ag' y_operands y_operator y_got) → D post') : ∀ n, cm_fi (cm_A x_parameterCount x_tokenKind x_tokenValue) s K 3 < n → wX_call_23 (fun r u' => D (fun r' v' => r' = r ∧ i_Rel kk u' v')) n (nI tt) (nI nc) (nI ns) (nI no) (nI nd) (-2) (nI s) (-9223372036854775808) x_enterGeneric x_enterPlace (nI (K.length + 1)) (nI (cm_ko (cm_vx x_tokenKind) K)) (nI (cm_kv (cm_vx x_tokenKind) K)) x_lineClass x_lineLength x_isSealed x_classHasSlot x_classSlot x_superDraft x_objectClass x_objectHasSlot x_objectSlot x_parameterCount x_methodGeneric x_specialiser x_tokenKind x_tokenValue x_tokenCount x_argument x_rank x_orderPlace (upd x_frameMethod K.length (nI m)) (upd x_framePlace K.length (nI pl)) (upd x_frameToken K.length 0) (upd x_frameOperators K.length (nI (cm_ko (cm_vx x_tokenKind) K))) fA' x_operatorKind x_operatorValue x_operatorLeft x_workedOut := by
  have hl := or_mn_lt hpl
  have hgood := bs_fi_p (p := or_good (or_R x_lineClass x_lineLength x_objectClass x_specialiser ar p) p (or_sq (or_R x_lineClass x_lineLength x_objectClass x_specialiser ar p) p (or_L x_methodGeneric (or_R x_lineClass x_lineLength x_objectClass x_specialiser ar p) g p) pl)) hl
  have hP := or_LF hl hgood.1
  have hm : m < 24 := by rw [em]; exact hl
  have eg : x_methodGeneric m = nI g := by rw [em]; exact hP.1
  obtain ⟨t, ht, et, _⟩ := hC.2.2.2.2.2.1 m (by omega)
  have hb := (hC.2.2.2.2.2.2.1 m g p t hm hg hp3 ht eg ep et).2
  have hJ := cm_mv_push (pl := pl) (fA' := fA') (ag' := ag') (ch' := ch') (mn' := mn') (bk' := bk') hV hK hm hg hp1 hp3 ht eg ep et hb hv hpl hfA hfA2 hag hag2 s1 s2 s3 s4 s5
  have e1 : cm_kl (cm_A x_parameterCount x_tokenKind x_tokenValue) ((m, pl, 0, ar, []) :: K) = cm_kl (cm_A x_parameterCount x_tokenKind x_tokenValue) K + 0 := rfl
  have e2 : ((m, pl, 0, ar, []) :: K).length = K.length + 1 := rfl
  unfold cm_fi at hmu htt
  intro n hn'
  unfold cm_fi at hn'
  exact ihW no s tt (m, pl, 0, ar, []) K _ _ _ _ _ _ _ _ _ _ _ _ x_argument x_rank x_orderPlace x_enterGeneric x_enterPlace _ _ _ _ _ _ _ _ _ _ _ _ hJ hn (by unfold cm_fi; omega) (by unfold cm_fi; omega) hY n (by unfold cm_fi; omega)
theorem cm_E_call {μ no s tt g p : Nat} {ar : Nat → Int64} {K : List cm_Fr} {ag' : Nat → Int64} (hC : cm_C nc no0 ns nd x_lineClass x_lineLength x_methodGeneric x_parameterCount x_specialiser x_tokenKind x_tokenValue x_tokenCount x_isSealed x_classHasSlot x_classSlot x_superDraft y_has y_initial y_draftHas y_draftInitial y_lists y_listLength y_gone y_single y_special y_shownSteps) (ihW : cm_PW D kk nc no0 ns nd x_lineClass x_lineLength x_methodGeneric x_parameterCount x_specialiser x_tokenKind x_tokenValue x_tokenCount x_isSealed x_classHasSlot x_classSlot x_superDraft y_has y_initial y_draftHas y_draftInitial y_lists y_listLength y_gone y_single y_special y_shownSteps μ) (hV : cm_V nc K s no x_lineClass x_lineLength x_methodGeneric x_parameterCount x_specialiser x_tokenKind x_tokenValue x_tokenCount x_objectClass x_objectHasSlot x_objectSlot x_frameMethod x_framePlace x_frameToken x_frameOperators x_frameArgument x_operatorKind x_operatorValue x_operatorLeft x_workedOut y_slots y_methodAt y_reached y_pc y_opsAt y_arguments y_operator y_got y_operands y_many y_broken y_chosen) (hn : no0 ≤ no) (hg : g < 5) (hp1 : 1 ≤ p) (hp3 : p ≤ 3) (ep : x_parameterCount g = nI p) (hv : ∀ q, q < p → rl_val no (ar q)) (hax : ∀ q, q < p → x_argument q = ar q) (hag : ∀ q, q < p → ag' (3 * K.length + q) = ar q) (hag2 : ∀ j, j < 3 * K.length → ag' j = y_arguments j) (hmu : cm_fi (cm_A x_parameterCount x_tokenKind x_tokenValue) s K 3 ≤ μ) (htt : tt + cm_fi (cm_A x_parameterCount x_tokenKind x_tokenValue) s K 5 ≤ 4000)
    (hY : ∀ post' : Int32 → SY → Prop, (∃ n, ∀ Q : SY → Prop, (∀ u, cm_Q post' n u → Q u) → wpY_enter Q (nI nc, nI ns, nI no, nI nd, nI K.length, nI (cm_ko cm_al K), nI (cm_kv cm_al K), 0, nI s, y_shownSteps, -9223372036854775808, x_lineClass, x_lineLength, y_has, x_isSealed, y_initial, x_superDraft, y_draftHas, y_draftInitial, y_lists, y_listLength, y_gone, x_objectClass, y_slots, x_parameterCount, x_methodGeneric, y_single, y_special, x_tokenKind, x_tokenCount, x_tokenValue, y_methodAt, y_pc, y_chosen, y_many, y_reached, y_opsAt, y_broken, ag', y_operands, y_operator, y_got) (nI g)) → D post') : ∀ n, cm_fi (cm_A x_parameterCount x_tokenKind x_tokenValue) s K 5 < n → wX_call_23 (fun r u' => D (fun r' v' => r' = r ∧ i_Rel kk u' v')) n (nI tt) (nI nc) (nI ns) (nI no) (nI nd) (-1) (nI s) (-9223372036854775808) (nI g) (nI 0) (nI K.length) (nI (cm_ko (cm_vx x_tokenKind) K)) (nI (cm_kv (cm_vx x_tokenKind) K)) x_lineClass x_lineLength x_isSealed x_classHasSlot x_classSlot x_superDraft x_objectClass x_objectHasSlot x_objectSlot x_parameterCount x_methodGeneric x_specialiser x_tokenKind x_tokenValue x_tokenCount x_argument x_rank x_orderPlace x_frameMethod x_framePlace x_frameToken x_frameOperators x_frameArgument x_operatorKind x_operatorValue x_operatorLeft x_workedOut := by
  have ho := hV.1
  have hs120 := hV.2.1
  have hcnt := hV.2.2.1
  have hlen := hV.2.2.2.1
  have hW : or_W nc no g p x_lineClass x_lineLength x_objectClass x_parameterCount ar := ⟨hC.1, ho.1, ho.2.1, hg, hp1, hp3, ep, hv⟩
  have hsp : ∀ m, m < 24 → x_methodGeneric m = nI g → ∀ k, k < p → rl_sp nc no (x_specialiser (3 * m + k)) (y_single (3 * m + k)) (y_special (3 * m + k)) := fun m hm e k hk => mk_sp_mono hn (hC.2.2.2.2.2.2.2.1.2.2 m g p hm hg hp3 e ep k hk)
  obtain ⟨ch, mn, bk, hS, hk⟩ := my_enter_e (y_classes := nI nc) (y_supers := nI ns) (y_specials := nI nd) (y_held := nI (cm_kv cm_al K)) (y_fault := 0) (y_steps := nI s) (y_shownSteps := y_shownSteps) (y_result := -9223372036854775808) (y_line := x_lineClass) (y_lineLength := x_lineLength) (y_has := y_has) (y_sealed := x_isSealed) (y_initial := y_initial) (y_drafted := x_superDraft) (y_draftHas := y_draftHas) (y_draftInitial := y_draftInitial) (y_lists := y_lists) (y_listLength := y_listLength) (y_gone := y_gone) (y_classOfObject := x_objectClass) (y_slots := y_slots) (y_parameters := x_parameterCount) (y_generic := x_methodGeneric) (y_single := y_single) (y_special := y_special) (y_kind := x_tokenKind) (y_tokens := x_tokenCount) (y_with := x_tokenValue) (y_methodAt := y_methodAt) (y_pc := y_pc) (y_chosen := y_chosen) (y_many := y_many) (y_reached := y_reached) (y_opsAt := y_opsAt) (y_broken := y_broken) (y_arguments := ag') (y_operands := y_operands) (y_operator := y_operator) (y_got := y_got) (SP := x_specialiser) (oc := cm_ko cm_al K) (R := (or_R x_lineClass x_lineLength x_objectClass x_specialiser ar p)) (L := (or_L x_methodGeneric (or_R x_lineClass x_lineLength x_objectClass x_specialiser ar p) g p)) rfl rfl hW hlen (by omega) hag hsp
  unfold cm_fi at hmu htt
  intro n hn'
  unfold cm_fi at hn'
  obtain ⟨n1, rfl⟩ : ∃ n1, n = n1 + 1 := ⟨n - 1, by omega⟩
  have fin : ∀ F : Int32, ¬ F = 0 → 0 ≤ F → (∀ post' : SY → Prop, post' (nI nc, nI ns, nI no, nI nd, nI K.length, nI (cm_ko cm_al K), nI (cm_kv cm_al K), F, nI s, y_shownSteps, -9223372036854775808, x_lineClass, x_lineLength, y_has, x_isSealed, y_initial, x_superDraft, y_draftHas, y_draftInitial, y_lists, y_listLength, y_gone, x_objectClass, y_slots, x_parameterCount, x_methodGeneric, y_single, y_special, x_tokenKind, x_tokenCount, x_tokenValue, y_methodAt, y_pc, ch, mn, y_reached, y_opsAt, bk, ag', y_operands, y_operator, y_got) → wpY_enter post' (nI nc, nI ns, nI no, nI nd, nI K.length, nI (cm_ko cm_al K), nI (cm_kv cm_al K), 0, nI s, y_shownSteps, -9223372036854775808, x_lineClass, x_lineLength, y_has, x_isSealed, y_initial, x_superDraft, y_draftHas, y_draftInitial, y_lists, y_listLength, y_gone, x_objectClass, y_slots, x_parameterCount, x_methodGeneric, y_single, y_special, x_tokenKind, x_tokenCount, x_tokenValue, y_methodAt, y_pc, y_chosen, y_many, y_reached, y_opsAt, y_broken, ag', y_operands, y_operator, y_got) (nI g)) → ∀ rk op, wX_call_23 (fun r u' => D (fun r' v' => r' = r ∧ i_Rel kk u' v')) n1 (nI (tt + 1)) (nI nc) (nI ns) (nI no) (nI nd) F (nI s) (-9223372036854775808) (nI g) (nI 0) (nI K.length) (nI (cm_ko (cm_vx x_tokenKind) K)) (nI (cm_kv (cm_vx x_tokenKind) K)) x_lineClass x_lineLength x_isSealed x_classHasSlot x_classSlot x_superDraft x_objectClass x_objectHasSlot x_objectSlot x_parameterCount x_methodGeneric x_specialiser x_tokenKind x_tokenValue x_tokenCount x_argument rk op x_frameMethod x_framePlace x_frameToken x_frameOperators x_frameArgument x_operatorKind x_operatorValue x_operatorLeft x_workedOut := by
    intro F hF0 hF hE rk op
    exact cm_halt (y_depth := nI K.length) (y_ops := nI (cm_ko cm_al K)) (y_held := nI (cm_kv cm_al K)) (y_shownSteps := y_shownSteps) (y_has := y_has) (y_initial := y_initial) (y_draftHas := y_draftHas) (y_draftInitial := y_draftInitial) (y_lists := y_lists) (y_listLength := y_listLength) (y_gone := y_gone) (y_slots := y_slots) (y_single := y_single) (y_special := y_special) (y_methodAt := y_methodAt) (y_pc := y_pc) (y_chosen := ch) (y_many := mn) (y_reached := y_reached) (y_opsAt := y_opsAt) (y_broken := bk) (y_arguments := ag') (y_operands := y_operands) (y_operator := y_operator) (y_got := y_got) hF0 hF hC hn ho (fun post' he => by obtain ⟨n2, h⟩ := he; exact hY post' ⟨n2, fun Q hQ => hE Q (hQ _ h)⟩) n1 (by omega)
  by_cases h0 : 0 < or_mn (or_R x_lineClass x_lineLength x_objectClass x_specialiser ar p) p (or_L x_methodGeneric (or_R x_lineClass x_lineLength x_objectClass x_specialiser ar p) g p)
  · by_cases hd : K.length = 8
    · exact mx_cl_E (by omega) (fun P hP => mx_enterMethod rfl rfl hW hax (by omega) hlen (fun z => by omega) (fun z => by omega) (fun _ _ rk op => hP _ _ _ _ _ _ _ _ _ _ _ _ _ _ _ _ _ _ _ _ _ _ _ _ _ _ _ _ _ _ _ _ _ _ _ _ _ _ _ (fin 6 (by decide) (by decide) (fun post' hp => hk post' (fun z => by omega) (fun z => by omega) (fun _ _ => hp) (fun _ z => by omega)) rk op)) (fun _ z => by omega))
    · refine mx_cl_E (by omega) (fun P hP => mx_enterMethod rfl rfl hW hax (by omega) hlen (fun z => by omega) (fun z => by omega) (fun _ z => by omega) (fun _ hd2 rk op fA hf1 hf2 => hP _ _ _ _ _ _ _ _ _ _ _ _ _ _ _ _ _ _ _ _ _ _ _ _ _ _ _ _ _ _ _ _ _ _ _ _ _ _ _ ?_))
      refine cm_E_push (pl := 0) (t := 0) (ag' := ag') hC ihW hV hn hd2 hg hp1 hp3 ep hv h0 rfl (fun q hq => by rw [hf1 q (by omega), hax q hq]) hf2 hag hag2 (hS hd2).1 (hS hd2).2.1 (hS hd2).2.2.1 (fun j hj => (hS hd2).2.2.2.1 j (by omega)) (fun j hj => (hS hd2).2.2.2.2 j (by omega)) (by unfold cm_fi; omega) (by unfold cm_fi; omega) (fun post' he => ?_) n1 (by unfold cm_fi; omega)
      obtain ⟨n2, h⟩ := he
      exact hY post' ⟨n2, fun Q hQ => hk Q (fun z => by omega) (fun z => by omega) (fun _ z => by omega) (fun _ _ => hQ _ h)⟩
  · have hz : or_mn (or_R x_lineClass x_lineLength x_objectClass x_specialiser ar p) p (or_L x_methodGeneric (or_R x_lineClass x_lineLength x_objectClass x_specialiser ar p) g p) = 0 := by omega
    have esq : or_sq (or_R x_lineClass x_lineLength x_objectClass x_specialiser ar p) p (or_L x_methodGeneric (or_R x_lineClass x_lineLength x_objectClass x_specialiser ar p) g p) (or_mn (or_R x_lineClass x_lineLength x_objectClass x_specialiser ar p) p (or_L x_methodGeneric (or_R x_lineClass x_lineLength x_objectClass x_specialiser ar p) g p)) = (or_L x_methodGeneric (or_R x_lineClass x_lineLength x_objectClass x_specialiser ar p) g p) := by rw [hz]; rfl
    by_cases hL : (or_L x_methodGeneric (or_R x_lineClass x_lineLength x_objectClass x_specialiser ar p) g p) = 0
    · refine mx_cl_E (by omega) (fun P hP => mx_enterMethod rfl rfl hW hax (by omega) hlen (fun _ z => by rw [esq] at z; exact absurd hL z) (fun _ _ rk op => hP _ _ _ _ _ _ _ _ _ _ _ _ _ _ _ _ _ _ _ _ _ _ _ _ _ _ _ _ _ _ _ _ _ _ _ _ _ _ _ ?_) (fun z => by omega) (fun z => by omega))
      rw [bs_ct rfl]
      exact fin 1 (by decide) (by decide) (fun post' hp => hk post' (fun _ z => absurd hL z) (fun _ _ => hp) (fun z => by omega) (fun z => by omega)) rk op
    · exact mx_cl_E (by omega) (fun P hP => mx_enterMethod rfl rfl hW hax (by omega) hlen (fun _ _ rk op => hP _ _ _ _ _ _ _ _ _ _ _ _ _ _ _ _ _ _ _ _ _ _ _ _ _ _ _ _ _ _ _ _ _ _ _ _ _ _ _ (fin 2 (by decide) (by decide) (fun post' hp => hk post' (fun _ _ => hp) (fun _ z => absurd z hL) (fun z => by omega) (fun z => by omega)) rk op)) (fun _ z => by rw [esq] at z; exact absurd z hL) (fun z => by omega) (fun z => by omega))
end
end
section
/-! the simulation: a token worked -/
section
variable {x_classCount : Int32} {x_superCount : Int32} {x_objectCount : Int32} {x_draftSpecialCount : Int32} {x_state : Int32} {x_stepCount : Int32} {x_latestValue : Int64} {x_enterGeneric : Int32} {x_enterPlace : Int32} {x_frameCount : Int32} {x_operatorCount : Int32} {x_valueCount : Int32} {x_lineClass : Nat → Int32} {x_lineLength : Nat → Int32} {x_isSealed : Nat → Int32} {x_classHasSlot : Nat → Int32} {x_classSlot : Nat → Int32} {x_superDraft : Nat → Int32} {x_objectClass : Nat → Int32} {x_objectHasSlot : Nat → Int32} {x_objectSlot : Nat → Int64} {x_parameterCount : Nat → Int32} {x_methodGeneric : Nat → Int32} {x_specialiser : Nat → Int64} {x_tokenKind : Nat → Int32} {x_tokenValue : Nat → Int32} {x_tokenCount : Nat → Int32} {x_argument : Nat → Int64} {x_rank : Nat → Int32} {x_orderPlace : Nat → Int32} {x_frameMethod : Nat → Int32} {x_framePlace : Nat → Int32} {x_frameToken : Nat → Int32} {x_frameOperators : Nat → Int32} {x_frameArgument : Nat → Int64} {x_operatorKind : Nat → Int32} {x_operatorValue : Nat → Int32} {x_operatorLeft : Nat → Int32} {x_workedOut : Nat → Int64} {y_classes : Int32} {y_supers : Int32} {y_objects : Int32} {y_specials : Int32} {y_depth : Int32} {y_ops : Int32} {y_held : Int32} {y_fault : Int32} {y_steps : Int32} {y_shownSteps : Int32} {y_result : Int64} {y_line : Nat → Int32} {y_lineLength : Nat → Int32} {y_has : Nat → Int32} {y_sealed : Nat → Int32} {y_initial : Nat → Int32} {y_drafted : Nat → Int32} {y_draftHas : Nat → Int32} {y_draftInitial : Nat → Int32} {y_lists : Nat → Int32} {y_listLength : Nat → Int32} {y_gone : Nat → Int32} {y_classOfObject : Nat → Int32} {y_slots : Nat → Int64} {y_parameters : Nat → Int32} {y_generic : Nat → Int32} {y_single : Nat → Int32} {y_special : Nat → Int64} {y_kind : Nat → Int32} {y_tokens : Nat → Int32} {y_with : Nat → Int32} {y_methodAt : Nat → Int32} {y_pc : Nat → Int32} {y_chosen : Nat → Int32} {y_many : Nat → Int32} {y_reached : Nat → Int32} {y_opsAt : Nat → Int32} {y_broken : Nat → Int32} {y_arguments : Nat → Int64} {y_operands : Nat → Int64} {y_operator : Nat → Int32} {y_got : Nat → Int32} {D : (Int32 → SY → Prop) → Prop} {kk nc no0 ns nd : Nat}
theorem cm_kind {c q : Nat} (e : x_tokenKind c = nI q) : (cm_A x_parameterCount x_tokenKind x_tokenValue) c = rl_ar x_parameterCount (nI q) (x_tokenValue c) := by
  unfold cm_A
  rw [e]
theorem cm_J_cnt {x s no : Nat} {f : cm_Fr} {K : List cm_Fr} (h : cm_J nc (x) (f) (K) (s) (no) x_lineClass x_lineLength x_methodGeneric x_parameterCount x_specialiser x_tokenKind x_tokenValue x_tokenCount x_objectClass x_objectHasSlot x_objectSlot x_frameMethod x_framePlace x_frameToken x_frameOperators x_frameArgument x_operatorKind x_operatorValue x_operatorLeft x_workedOut y_slots y_methodAt y_reached y_pc y_opsAt y_arguments y_operator y_got y_operands y_many y_broken y_chosen) : cm_ko (cm_vx x_tokenKind) (f :: K) ≤ cm_ko cm_al (f :: K) ∧ cm_kv (cm_vx x_tokenKind) (f :: K) ≤ cm_kv cm_al (f :: K) ∧ cm_ko cm_al (f :: K) + cm_kv cm_al (f :: K) + (1 - x) ≤ s ∧ s ≤ 120 :=
  ⟨cm_ko_le _ _, cm_kv_le _ _, h.2.2.1, h.2.1⟩
theorem cm_W_val {μ no s tt m pl pc : Nat} {v : Int64} {ar : Nat → Int64} {its : List cm_It} {K : List cm_Fr} (hC : cm_C nc no0 ns nd x_lineClass x_lineLength x_methodGeneric x_parameterCount x_specialiser x_tokenKind x_tokenValue x_tokenCount x_isSealed x_classHasSlot x_classSlot x_superDraft y_has y_initial y_draftHas y_draftInitial y_lists y_listLength y_gone y_single y_special y_shownSteps) (ihT : cm_PT D kk nc no0 ns nd x_lineClass x_lineLength x_methodGeneric x_parameterCount x_specialiser x_tokenKind x_tokenValue x_tokenCount x_isSealed x_classHasSlot x_classSlot x_superDraft y_has y_initial y_draftHas y_draftInitial y_lists y_listLength y_gone y_single y_special y_shownSteps μ) (h : cm_J nc (1) ((m, pl, pc, ar, its)) (K) (s) (no) x_lineClass x_lineLength x_methodGeneric x_parameterCount x_specialiser x_tokenKind x_tokenValue x_tokenCount x_objectClass x_objectHasSlot x_objectSlot x_frameMethod x_framePlace x_frameToken x_frameOperators x_frameArgument x_operatorKind x_operatorValue x_operatorLeft x_workedOut y_slots y_methodAt y_reached y_pc y_opsAt y_arguments y_operator y_got y_operands y_many y_broken y_chosen) (hn : no0 ≤ no) (hs : s < 120) (hA : (cm_A x_parameterCount x_tokenKind x_tokenValue) (16 * m + pc) = 0) (hv : rl_val no v) (hmu : cm_fi (cm_A x_parameterCount x_tokenKind x_tokenValue) s ((m, pl, pc, ar, its) :: K) 0 ≤ μ + 1) (htt : tt + cm_fi (cm_A x_parameterCount x_tokenKind x_tokenValue) s ((m, pl, pc, ar, its) :: K) 0 ≤ 4000)
    (hY : ∀ post' : Int32 → SY → Prop, (∃ n n5, wY_deliver_5 (cm_Q post' n) n5 v 1 (nI nc) (nI ns) (nI no) (nI nd) (nI (K.length + 1)) (nI (cm_ko cm_al ((m, pl, pc, ar, its) :: K))) (nI (cm_kv cm_al ((m, pl, pc, ar, its) :: K))) 0 (nI (s + 1)) y_shownSteps (-9223372036854775808) x_lineClass x_lineLength y_has x_isSealed y_initial x_superDraft y_draftHas y_draftInitial y_lists y_listLength y_gone x_objectClass y_slots x_parameterCount x_methodGeneric y_single y_special x_tokenKind x_tokenCount x_tokenValue y_methodAt (upd y_pc K.length (nI (pc + 1))) y_chosen y_many y_reached y_opsAt y_broken y_arguments y_operands y_operator y_got) → D post') : ∀ n, cm_fi (cm_A x_parameterCount x_tokenKind x_tokenValue) s ((m, pl, pc, ar, its) :: K) 0 < n + 1 → wX_call_23 (fun r u' => D (fun r' v' => r' = r ∧ i_Rel kk u' v')) n (nI (tt + 1)) (nI nc) (nI ns) (nI no) (nI nd) (-3) (nI (s + 1)) (-9223372036854775808) x_enterGeneric x_enterPlace (nI (K.length + 1)) (nI (cm_ko (cm_vx x_tokenKind) ((m, pl, pc, ar, its) :: K))) (nI (cm_kv (cm_vx x_tokenKind) ((m, pl, pc, ar, its) :: K) + 1)) x_lineClass x_lineLength x_isSealed x_classHasSlot x_classSlot x_superDraft x_objectClass x_objectHasSlot x_objectSlot x_parameterCount x_methodGeneric x_specialiser x_tokenKind x_tokenValue x_tokenCount x_argument x_rank x_orderPlace x_frameMethod x_framePlace (upd x_frameToken K.length (nI (pc + 1))) x_frameOperators x_frameArgument x_operatorKind x_operatorValue x_operatorLeft (vp_updL x_workedOut (cm_kv (cm_vx x_tokenKind) ((m, pl, pc, ar, its) :: K)) v) := by
  have hJ := cm_mv_pc hC.2.2.2.2.2.1 h hs hA (wo' := vp_updL x_workedOut (cm_kv (cm_vx x_tokenKind) ((m, pl, pc, ar, its) :: K)) v) (fun j hj => pk_uLn (by omega))
  have e1 : cm_kl (cm_A x_parameterCount x_tokenKind x_tokenValue) ((m, pl, pc + 1, ar, its) :: K) = cm_kl (cm_A x_parameterCount x_tokenKind x_tokenValue) ((m, pl, pc, ar, its) :: K) := rfl
  have e2 : ((m, pl, pc + 1, ar, its) :: K).length = ((m, pl, pc, ar, its) :: K).length := rfl
  unfold cm_fi at hmu htt
  intro n hn'
  unfold cm_fi at hn'
  exact ihT no (s + 1) (tt + 1) v (m, pl, pc + 1, ar, its) K _ _ _ _ _ _ _ _ _ _ _ _ x_argument x_rank x_orderPlace x_enterGeneric x_enterPlace _ _ _ _ _ _ _ _ _ _ _ _ hJ hn hv pk_uLs (by unfold cm_fi; omega) (by unfold cm_fi; omega) hY n (by unfold cm_fi; omega)
theorem cm_W_num {μ no s tt m pl pc : Nat} {ar : Nat → Int64} {its : List cm_It} {K : List cm_Fr} (hC : cm_C nc no0 ns nd x_lineClass x_lineLength x_methodGeneric x_parameterCount x_specialiser x_tokenKind x_tokenValue x_tokenCount x_isSealed x_classHasSlot x_classSlot x_superDraft y_has y_initial y_draftHas y_draftInitial y_lists y_listLength y_gone y_single y_special y_shownSteps) (ihT : cm_PT D kk nc no0 ns nd x_lineClass x_lineLength x_methodGeneric x_parameterCount x_specialiser x_tokenKind x_tokenValue x_tokenCount x_isSealed x_classHasSlot x_classSlot x_superDraft y_has y_initial y_draftHas y_draftInitial y_lists y_listLength y_gone y_single y_special y_shownSteps μ) (h : cm_J nc (1) ((m, pl, pc, ar, its)) (K) (s) (no) x_lineClass x_lineLength x_methodGeneric x_parameterCount x_specialiser x_tokenKind x_tokenValue x_tokenCount x_objectClass x_objectHasSlot x_objectSlot x_frameMethod x_framePlace x_frameToken x_frameOperators x_frameArgument x_operatorKind x_operatorValue x_operatorLeft x_workedOut y_slots y_methodAt y_reached y_pc y_opsAt y_arguments y_operator y_got y_operands y_many y_broken y_chosen) (hn : no0 ≤ no) (hs : s < 120) (hm : m < 24) (hpc : pc < 16) (ek : x_tokenKind (16 * m + pc) = nI 0) (hmu : cm_fi (cm_A x_parameterCount x_tokenKind x_tokenValue) s ((m, pl, pc, ar, its) :: K) 0 ≤ μ + 1) (htt : tt + cm_fi (cm_A x_parameterCount x_tokenKind x_tokenValue) s ((m, pl, pc, ar, its) :: K) 0 ≤ 4000)
    (hY : ∀ post' : Int32 → SY → Prop, (∃ n, wY_call_62 post' n (nI nc) (nI ns) (nI no) (nI nd) (nI (K.length + 1)) (nI (cm_ko cm_al ((m, pl, pc, ar, its) :: K))) (nI (cm_kv cm_al ((m, pl, pc, ar, its) :: K))) 0 (nI s) y_shownSteps (-9223372036854775808) x_lineClass x_lineLength y_has x_isSealed y_initial x_superDraft y_draftHas y_draftInitial y_lists y_listLength y_gone x_objectClass y_slots x_parameterCount x_methodGeneric y_single y_special x_tokenKind x_tokenCount x_tokenValue y_methodAt y_pc y_chosen y_many y_reached y_opsAt y_broken y_arguments y_operands y_operator y_got) → D post') : ∀ n, cm_fi (cm_A x_parameterCount x_tokenKind x_tokenValue) s ((m, pl, pc, ar, its) :: K) 0 < n + 1 → wX_call_23 (fun r u' => D (fun r' v' => r' = r ∧ i_Rel kk u' v')) (n + 1) (nI tt) (nI nc) (nI ns) (nI no) (nI nd) (-2) (nI s) (-9223372036854775808) x_enterGeneric x_enterPlace (nI (K.length + 1)) (nI (cm_ko (cm_vx x_tokenKind) ((m, pl, pc, ar, its) :: K))) (nI (cm_kv (cm_vx x_tokenKind) ((m, pl, pc, ar, its) :: K))) x_lineClass x_lineLength x_isSealed x_classHasSlot x_classSlot x_superDraft x_objectClass x_objectHasSlot x_objectSlot x_parameterCount x_methodGeneric x_specialiser x_tokenKind x_tokenValue x_tokenCount x_argument x_rank x_orderPlace x_frameMethod x_framePlace x_frameToken x_frameOperators x_frameArgument x_operatorKind x_operatorValue x_operatorLeft x_workedOut := by
  obtain ⟨k1, k2, k3, k4⟩ := cm_J_cnt h
  have hd := h.2.2.2.1
  have hX := h.2.2.2.2.2.2.1.1
  have hYl := h.2.2.2.2.2.2.2.1.1
  have htt2 := htt
  unfold cm_fi at htt2
  intro n hn'
  refine mx_cl_W (by omega) (fun P hP => mx_wk_num hs hd hm hpc hX.1 hX.2.2.1 (by omega) ek (hP _ _ _ _ _ _ _ _ _ _ _ _ _ _ _ _ _ _ _ _ _ _ _ _ _ _ _ _ _ _ _ _ _ _ _ _ _ _ _ ?_))
  refine cm_W_val hC ihT h hn hs (by rw [cm_kind ek]; rfl) (Or.inl (mk_int _)) hmu htt (fun post' he => ?_) n hn'
  obtain ⟨n1, n5, hdl⟩ := he
  exact hY post' ⟨n1 + 1, my_cl_work (by omega) (my_wk_num hs hd hm hpc hYl.1 hYl.2.2.1 ek ⟨n5, hdl⟩)⟩
theorem cm_W_arg {μ no s tt m pl pc a g p : Nat} {ar : Nat → Int64} {its : List cm_It} {K : List cm_Fr} (hC : cm_C nc no0 ns nd x_lineClass x_lineLength x_methodGeneric x_parameterCount x_specialiser x_tokenKind x_tokenValue x_tokenCount x_isSealed x_classHasSlot x_classSlot x_superDraft y_has y_initial y_draftHas y_draftInitial y_lists y_listLength y_gone y_single y_special y_shownSteps) (ihT : cm_PT D kk nc no0 ns nd x_lineClass x_lineLength x_methodGeneric x_parameterCount x_specialiser x_tokenKind x_tokenValue x_tokenCount x_isSealed x_classHasSlot x_classSlot x_superDraft y_has y_initial y_draftHas y_draftInitial y_lists y_listLength y_gone y_single y_special y_shownSteps μ) (h : cm_J nc (1) ((m, pl, pc, ar, its)) (K) (s) (no) x_lineClass x_lineLength x_methodGeneric x_parameterCount x_specialiser x_tokenKind x_tokenValue x_tokenCount x_objectClass x_objectHasSlot x_objectSlot x_frameMethod x_framePlace x_frameToken x_frameOperators x_frameArgument x_operatorKind x_operatorValue x_operatorLeft x_workedOut y_slots y_methodAt y_reached y_pc y_opsAt y_arguments y_operator y_got y_operands y_many y_broken y_chosen) (hn : no0 ≤ no) (hs : s < 120) (hm : m < 24) (hpc : pc < 16) (hg : g < 5) (hp3 : p ≤ 3) (eg : x_methodGeneric m = nI g) (ep : x_parameterCount g = nI p) (ha : a < p) (hva : rl_val no (ar a)) (ek : x_tokenKind (16 * m + pc) = nI 1) (ea : x_tokenValue (16 * m + pc) = nI a) (hmu : cm_fi (cm_A x_parameterCount x_tokenKind x_tokenValue) s ((m, pl, pc, ar, its) :: K) 0 ≤ μ + 1) (htt : tt + cm_fi (cm_A x_parameterCount x_tokenKind x_tokenValue) s ((m, pl, pc, ar, its) :: K) 0 ≤ 4000)
    (hY : ∀ post' : Int32 → SY → Prop, (∃ n, wY_call_62 post' n (nI nc) (nI ns) (nI no) (nI nd) (nI (K.length + 1)) (nI (cm_ko cm_al ((m, pl, pc, ar, its) :: K))) (nI (cm_kv cm_al ((m, pl, pc, ar, its) :: K))) 0 (nI s) y_shownSteps (-9223372036854775808) x_lineClass x_lineLength y_has x_isSealed y_initial x_superDraft y_draftHas y_draftInitial y_lists y_listLength y_gone x_objectClass y_slots x_parameterCount x_methodGeneric y_single y_special x_tokenKind x_tokenCount x_tokenValue y_methodAt y_pc y_chosen y_many y_reached y_opsAt y_broken y_arguments y_operands y_operator y_got) → D post') : ∀ n, cm_fi (cm_A x_parameterCount x_tokenKind x_tokenValue) s ((m, pl, pc, ar, its) :: K) 0 < n + 1 → wX_call_23 (fun r u' => D (fun r' v' => r' = r ∧ i_Rel kk u' v')) (n + 1) (nI tt) (nI nc) (nI ns) (nI no) (nI nd) (-2) (nI s) (-9223372036854775808) x_enterGeneric x_enterPlace (nI (K.length + 1)) (nI (cm_ko (cm_vx x_tokenKind) ((m, pl, pc, ar, its) :: K))) (nI (cm_kv (cm_vx x_tokenKind) ((m, pl, pc, ar, its) :: K))) x_lineClass x_lineLength x_isSealed x_classHasSlot x_classSlot x_superDraft x_objectClass x_objectHasSlot x_objectSlot x_parameterCount x_methodGeneric x_specialiser x_tokenKind x_tokenValue x_tokenCount x_argument x_rank x_orderPlace x_frameMethod x_framePlace x_frameToken x_frameOperators x_frameArgument x_operatorKind x_operatorValue x_operatorLeft x_workedOut := by
  obtain ⟨k1, k2, k3, k4⟩ := cm_J_cnt h
  have hd := h.2.2.2.1
  have hX := h.2.2.2.2.2.2.1.1
  have hYl := h.2.2.2.2.2.2.2.1.1
  have enp := cm_np_e hg hp3 eg ep
  have eX : x_frameArgument (3 * K.length + a) = ar a := hX.2.2.2.2.1 a (by show a < cm_np _ _ m; rw [enp]; exact ha)
  have eY : y_arguments (3 * K.length + a) = ar a := hYl.2.2.2.2.1 a (by show a < cm_np _ _ m; rw [enp]; exact ha)
  have htt2 := htt
  unfold cm_fi at htt2
  intro n hn'
  refine mx_cl_W (by omega) (fun P hP => mx_wk_arg hs hd hm hpc hX.1 hX.2.2.1 (a := a) (by omega) (by omega) ek ea (hP _ _ _ _ _ _ _ _ _ _ _ _ _ _ _ _ _ _ _ _ _ _ _ _ _ _ _ _ _ _ _ _ _ _ _ _ _ _ _ ?_))
  rw [eX]
  refine cm_W_val hC ihT h hn hs (by rw [cm_kind ek]; rfl) hva hmu htt (fun post' he => ?_) n hn'
  obtain ⟨n1, n5, hdl⟩ := he
  refine hY post' ⟨n1 + 1, my_cl_work (by omega) (my_wk_arg hs hd hm hpc hYl.1 hYl.2.2.1 (a := a) (by omega) ek ea ?_)⟩
  rw [eY]
  exact ⟨n5, hdl⟩
theorem cm_W_op {μ no s tt m pl pc q t : Nat} {ar : Nat → Int64} {its : List cm_It} {K : List cm_Fr} (hC : cm_C nc no0 ns nd x_lineClass x_lineLength x_methodGeneric x_parameterCount x_specialiser x_tokenKind x_tokenValue x_tokenCount x_isSealed x_classHasSlot x_classSlot x_superDraft y_has y_initial y_draftHas y_draftInitial y_lists y_listLength y_gone y_single y_special y_shownSteps) (ihW : cm_PW D kk nc no0 ns nd x_lineClass x_lineLength x_methodGeneric x_parameterCount x_specialiser x_tokenKind x_tokenValue x_tokenCount x_isSealed x_classHasSlot x_classSlot x_superDraft y_has y_initial y_draftHas y_draftInitial y_lists y_listLength y_gone y_single y_special y_shownSteps μ) (h : cm_J nc (1) ((m, pl, pc, ar, its)) (K) (s) (no) x_lineClass x_lineLength x_methodGeneric x_parameterCount x_specialiser x_tokenKind x_tokenValue x_tokenCount x_objectClass x_objectHasSlot x_objectSlot x_frameMethod x_framePlace x_frameToken x_frameOperators x_frameArgument x_operatorKind x_operatorValue x_operatorLeft x_workedOut y_slots y_methodAt y_reached y_pc y_opsAt y_arguments y_operator y_got y_operands y_many y_broken y_chosen) (hn : no0 ≤ no) (hs : s < 120) (hm : m < 24) (hpc : pc < 16) (ek : x_tokenKind (16 * m + pc) = nI q) (hq3 : 3 ≤ q) (hq11 : q ≤ 11) (hA1 : 1 ≤ (cm_A x_parameterCount x_tokenKind x_tokenValue) (16 * m + pc)) (htk : rl_tk nc (x_tokenKind (16 * m + pc)) (x_tokenValue (16 * m + pc))) (hmu : cm_fi (cm_A x_parameterCount x_tokenKind x_tokenValue) s ((m, pl, pc, ar, its) :: K) 0 ≤ μ + 1) (htt : tt + cm_fi (cm_A x_parameterCount x_tokenKind x_tokenValue) s ((m, pl, pc, ar, its) :: K) 0 ≤ 4000)
    (hY : ∀ post' : Int32 → SY → Prop, (∃ n, wY_call_62 post' n (nI nc) (nI ns) (nI no) (nI nd) (nI (K.length + 1)) (nI (cm_ko cm_al ((m, pl, pc, ar, its) :: K))) (nI (cm_kv cm_al ((m, pl, pc, ar, its) :: K))) 0 (nI s) y_shownSteps (-9223372036854775808) x_lineClass x_lineLength y_has x_isSealed y_initial x_superDraft y_draftHas y_draftInitial y_lists y_listLength y_gone x_objectClass y_slots x_parameterCount x_methodGeneric y_single y_special x_tokenKind x_tokenCount x_tokenValue y_methodAt y_pc y_chosen y_many y_reached y_opsAt y_broken y_arguments y_operands y_operator y_got) → D post') : ∀ n, cm_fi (cm_A x_parameterCount x_tokenKind x_tokenValue) s ((m, pl, pc, ar, its) :: K) 0 < n + 1 → wX_call_23 (fun r u' => D (fun r' v' => r' = r ∧ i_Rel kk u' v')) (n + 1) (nI tt) (nI nc) (nI ns) (nI no) (nI nd) (-2) (nI s) (-9223372036854775808) x_enterGeneric x_enterPlace (nI (K.length + 1)) (nI (cm_ko (cm_vx x_tokenKind) ((m, pl, pc, ar, its) :: K))) (nI (cm_kv (cm_vx x_tokenKind) ((m, pl, pc, ar, its) :: K))) x_lineClass x_lineLength x_isSealed x_classHasSlot x_classSlot x_superDraft x_objectClass x_objectHasSlot x_objectSlot x_parameterCount x_methodGeneric x_specialiser x_tokenKind x_tokenValue x_tokenCount x_argument x_rank x_orderPlace x_frameMethod x_framePlace x_frameToken x_frameOperators x_frameArgument x_operatorKind x_operatorValue x_operatorLeft x_workedOut := by
  obtain ⟨k1, k2, k3, k4⟩ := cm_J_cnt h
  have hd := h.2.2.2.1
  have hX := h.2.2.2.2.2.2.1.1
  have hYl := h.2.2.2.2.2.2.2.1.1
  have hA3 : (cm_A x_parameterCount x_tokenKind x_tokenValue) (16 * m + pc) ≤ 3 := pa_ar3 hC.2.2.2.1 htk
  have hJ := cm_mv_op (q := q) hC.2.2.2.2.2.1 h hs hA1
  have hvx : (cm_vx x_tokenKind) (16 * m + pc, 0, 0, fun _ => 0) = true := cm_vx_t (fun z => absurd z.2 (show ¬ (0 : Nat) = 1 by decide))
  have ekx : cm_ko (cm_vx x_tokenKind) ((m, pl, pc + 1, ar, (16 * m + pc, 0, 0, fun _ => 0) :: its) :: K) = cm_ko (cm_vx x_tokenKind) ((m, pl, pc, ar, its) :: K) + 1 := by
    show cm_ko (cm_vx x_tokenKind) K + cm_ni (cm_vx x_tokenKind) ((16 * m + pc, 0, 0, fun _ => 0) :: its) = cm_ko (cm_vx x_tokenKind) K + cm_ni (cm_vx x_tokenKind) its + 1
    rw [cm_ni_t hvx]; rfl
  have evx : cm_kv (cm_vx x_tokenKind) ((m, pl, pc + 1, ar, (16 * m + pc, 0, 0, fun _ => 0) :: its) :: K) = cm_kv (cm_vx x_tokenKind) ((m, pl, pc, ar, its) :: K) := by
    show cm_kv (cm_vx x_tokenKind) K + cm_nv (cm_vx x_tokenKind) ((16 * m + pc, 0, 0, fun _ => 0) :: its) = cm_kv (cm_vx x_tokenKind) K + cm_nv (cm_vx x_tokenKind) its
    rw [cm_nv_t hvx]; rfl
  have e1 : cm_kl (cm_A x_parameterCount x_tokenKind x_tokenValue) ((m, pl, pc + 1, ar, (16 * m + pc, 0, 0, fun _ => 0) :: its) :: K) = cm_kl (cm_A x_parameterCount x_tokenKind x_tokenValue) K + (cm_lf (cm_A x_parameterCount x_tokenKind x_tokenValue) its + ((cm_A x_parameterCount x_tokenKind x_tokenValue) (16 * m + pc) - 0)) := rfl
  have e0 : cm_kl (cm_A x_parameterCount x_tokenKind x_tokenValue) ((m, pl, pc, ar, its) :: K) = cm_kl (cm_A x_parameterCount x_tokenKind x_tokenValue) K + cm_lf (cm_A x_parameterCount x_tokenKind x_tokenValue) its := rfl
  have e2 : ((m, pl, pc + 1, ar, (16 * m + pc, 0, 0, fun _ => 0) :: its) :: K).length = ((m, pl, pc, ar, its) :: K).length := rfl
  unfold cm_fi at hmu htt
  intro n hn'
  unfold cm_fi at hn'
  refine mx_cl_W (by omega) (fun P hP => mx_wk_op hs hd hm hpc hX.1 hX.2.2.1 (by omega) hC.2.2.2.1 htk ek hq3 hq11 (hP _ _ _ _ _ _ _ _ _ _ _ _ _ _ _ _ _ _ _ _ _ _ _ _ _ _ _ _ _ _ _ _ _ _ _ _ _ _ _ ?_))
  have hr := ihW no (s + 1) (tt + 1) (m, pl, pc + 1, ar, (16 * m + pc, 0, 0, fun _ => 0) :: its) K _ _ _ _ _ _ _ _ _ _ _ _ x_argument x_rank x_orderPlace x_enterGeneric x_enterPlace _ _ _ _ _ _ _ _ _ _ _ _ hJ hn (by unfold cm_fi; omega) (by unfold cm_fi; omega) (fun post' he => by
    obtain ⟨n1, hcl⟩ := he
    exact hY post' ⟨n1 + 1, my_cl_work (by omega) (my_wk_op hs hd hm hpc hYl.1 hYl.2.2.1 (by omega) ek hq3 hq11 hcl)⟩) n (by unfold cm_fi; omega)
  rw [ekx, evx] at hr
  exact hr
theorem cm_W_long {no tt m pl pc : Nat} {ar : Nat → Int64} {its : List cm_It} {K : List cm_Fr} (hC : cm_C nc no0 ns nd x_lineClass x_lineLength x_methodGeneric x_parameterCount x_specialiser x_tokenKind x_tokenValue x_tokenCount x_isSealed x_classHasSlot x_classSlot x_superDraft y_has y_initial y_draftHas y_draftInitial y_lists y_listLength y_gone y_single y_special y_shownSteps) (h : cm_J nc (1) ((m, pl, pc, ar, its)) (K) (120) (no) x_lineClass x_lineLength x_methodGeneric x_parameterCount x_specialiser x_tokenKind x_tokenValue x_tokenCount x_objectClass x_objectHasSlot x_objectSlot x_frameMethod x_framePlace x_frameToken x_frameOperators x_frameArgument x_operatorKind x_operatorValue x_operatorLeft x_workedOut y_slots y_methodAt y_reached y_pc y_opsAt y_arguments y_operator y_got y_operands y_many y_broken y_chosen) (hn : no0 ≤ no) (htt : tt < 4000)
    (hY : ∀ post' : Int32 → SY → Prop, (∃ n, wY_call_62 post' n (nI nc) (nI ns) (nI no) (nI nd) (nI (K.length + 1)) (nI (cm_ko cm_al ((m, pl, pc, ar, its) :: K))) (nI (cm_kv cm_al ((m, pl, pc, ar, its) :: K))) 0 (nI 120) y_shownSteps (-9223372036854775808) x_lineClass x_lineLength y_has x_isSealed y_initial x_superDraft y_draftHas y_draftInitial y_lists y_listLength y_gone x_objectClass y_slots x_parameterCount x_methodGeneric y_single y_special x_tokenKind x_tokenCount x_tokenValue y_methodAt y_pc y_chosen y_many y_reached y_opsAt y_broken y_arguments y_operands y_operator y_got) → D post') : ∀ n, 0 < n → wX_call_23 (fun r u' => D (fun r' v' => r' = r ∧ i_Rel kk u' v')) (n + 1) (nI tt) (nI nc) (nI ns) (nI no) (nI nd) (-2) (nI 120) (-9223372036854775808) x_enterGeneric x_enterPlace (nI (K.length + 1)) (nI (cm_ko (cm_vx x_tokenKind) ((m, pl, pc, ar, its) :: K))) (nI (cm_kv (cm_vx x_tokenKind) ((m, pl, pc, ar, its) :: K))) x_lineClass x_lineLength x_isSealed x_classHasSlot x_classSlot x_superDraft x_objectClass x_objectHasSlot x_objectSlot x_parameterCount x_methodGeneric x_specialiser x_tokenKind x_tokenValue x_tokenCount x_argument x_rank x_orderPlace x_frameMethod x_framePlace x_frameToken x_frameOperators x_frameArgument x_operatorKind x_operatorValue x_operatorLeft x_workedOut := by
  have hd := h.2.2.2.1
  intro n hn'
  refine mx_cl_W (by omega) (fun P hP => mx_wk_long (hP _ _ _ _ _ _ _ _ _ _ _ _ _ _ _ _ _ _ _ _ _ _ _ _ _ _ _ _ _ _ _ _ _ _ _ _ _ _ _ ?_))
  refine cm_halt (y_depth := nI (K.length + 1)) (y_ops := nI (cm_ko cm_al ((m, pl, pc, ar, its) :: K))) (y_held := nI (cm_kv cm_al ((m, pl, pc, ar, its) :: K))) (y_shownSteps := y_shownSteps) (y_has := y_has) (y_initial := y_initial) (y_draftHas := y_draftHas) (y_draftInitial := y_draftInitial) (y_lists := y_lists) (y_listLength := y_listLength) (y_gone := y_gone) (y_slots := y_slots) (y_single := y_single) (y_special := y_special) (y_methodAt := y_methodAt) (y_pc := y_pc) (y_chosen := y_chosen) (y_many := y_many) (y_reached := y_reached) (y_opsAt := y_opsAt) (y_broken := y_broken) (y_arguments := y_arguments) (y_operands := y_operands) (y_operator := y_operator) (y_got := y_got) (F := 7) (by decide) (by decide) hC hn h.1 (fun post' he => ?_) n hn'
  obtain ⟨n1, hcl⟩ := he
  exact hY post' ⟨n1 + 1, my_cl_work (by omega) (my_wk_long hcl)⟩
end
end
section
/-! the simulation: NEXT and MAKE -/
section
variable {x_classCount : Int32} {x_superCount : Int32} {x_objectCount : Int32} {x_draftSpecialCount : Int32} {x_state : Int32} {x_stepCount : Int32} {x_latestValue : Int64} {x_enterGeneric : Int32} {x_enterPlace : Int32} {x_frameCount : Int32} {x_operatorCount : Int32} {x_valueCount : Int32} {x_lineClass : Nat → Int32} {x_lineLength : Nat → Int32} {x_isSealed : Nat → Int32} {x_classHasSlot : Nat → Int32} {x_classSlot : Nat → Int32} {x_superDraft : Nat → Int32} {x_objectClass : Nat → Int32} {x_objectHasSlot : Nat → Int32} {x_objectSlot : Nat → Int64} {x_parameterCount : Nat → Int32} {x_methodGeneric : Nat → Int32} {x_specialiser : Nat → Int64} {x_tokenKind : Nat → Int32} {x_tokenValue : Nat → Int32} {x_tokenCount : Nat → Int32} {x_argument : Nat → Int64} {x_rank : Nat → Int32} {x_orderPlace : Nat → Int32} {x_frameMethod : Nat → Int32} {x_framePlace : Nat → Int32} {x_frameToken : Nat → Int32} {x_frameOperators : Nat → Int32} {x_frameArgument : Nat → Int64} {x_operatorKind : Nat → Int32} {x_operatorValue : Nat → Int32} {x_operatorLeft : Nat → Int32} {x_workedOut : Nat → Int64} {y_classes : Int32} {y_supers : Int32} {y_objects : Int32} {y_specials : Int32} {y_depth : Int32} {y_ops : Int32} {y_held : Int32} {y_fault : Int32} {y_steps : Int32} {y_shownSteps : Int32} {y_result : Int64} {y_line : Nat → Int32} {y_lineLength : Nat → Int32} {y_has : Nat → Int32} {y_sealed : Nat → Int32} {y_initial : Nat → Int32} {y_drafted : Nat → Int32} {y_draftHas : Nat → Int32} {y_draftInitial : Nat → Int32} {y_lists : Nat → Int32} {y_listLength : Nat → Int32} {y_gone : Nat → Int32} {y_classOfObject : Nat → Int32} {y_slots : Nat → Int64} {y_parameters : Nat → Int32} {y_generic : Nat → Int32} {y_single : Nat → Int32} {y_special : Nat → Int64} {y_kind : Nat → Int32} {y_tokens : Nat → Int32} {y_with : Nat → Int32} {y_methodAt : Nat → Int32} {y_pc : Nat → Int32} {y_chosen : Nat → Int32} {y_many : Nat → Int32} {y_reached : Nat → Int32} {y_opsAt : Nat → Int32} {y_broken : Nat → Int32} {y_arguments : Nat → Int64} {y_operands : Nat → Int64} {y_operator : Nat → Int32} {y_got : Nat → Int32} {D : (Int32 → SY → Prop) → Prop} {kk nc no0 ns nd : Nat}
theorem cm_W_next {μ no s tt m pl pc : Nat} {ar : Nat → Int64} {its : List cm_It} {K : List cm_Fr} (hC : cm_C nc no0 ns nd x_lineClass x_lineLength x_methodGeneric x_parameterCount x_specialiser x_tokenKind x_tokenValue x_tokenCount x_isSealed x_classHasSlot x_classSlot x_superDraft y_has y_initial y_draftHas y_draftInitial y_lists y_listLength y_gone y_single y_special y_shownSteps) (ihW : cm_PW D kk nc no0 ns nd x_lineClass x_lineLength x_methodGeneric x_parameterCount x_specialiser x_tokenKind x_tokenValue x_tokenCount x_isSealed x_classHasSlot x_classSlot x_superDraft y_has y_initial y_draftHas y_draftInitial y_lists y_listLength y_gone y_single y_special y_shownSteps μ) (h : cm_J nc (1) ((m, pl, pc, ar, its)) (K) (s) (no) x_lineClass x_lineLength x_methodGeneric x_parameterCount x_specialiser x_tokenKind x_tokenValue x_tokenCount x_objectClass x_objectHasSlot x_objectSlot x_frameMethod x_framePlace x_frameToken x_frameOperators x_frameArgument x_operatorKind x_operatorValue x_operatorLeft x_workedOut y_slots y_methodAt y_reached y_pc y_opsAt y_arguments y_operator y_got y_operands y_many y_broken y_chosen) (hn : no0 ≤ no) (hs : s < 120) (hpc : pc < 16) (ek : x_tokenKind (16 * m + pc) = nI 2) (hmu : cm_fi (cm_A x_parameterCount x_tokenKind x_tokenValue) s ((m, pl, pc, ar, its) :: K) 0 ≤ μ + 1) (htt : tt + cm_fi (cm_A x_parameterCount x_tokenKind x_tokenValue) s ((m, pl, pc, ar, its) :: K) 0 ≤ 4000)
    (hY : ∀ post' : Int32 → SY → Prop, (∃ n, wY_call_62 post' n (nI nc) (nI ns) (nI no) (nI nd) (nI (K.length + 1)) (nI (cm_ko cm_al ((m, pl, pc, ar, its) :: K))) (nI (cm_kv cm_al ((m, pl, pc, ar, its) :: K))) 0 (nI s) y_shownSteps (-9223372036854775808) x_lineClass x_lineLength y_has x_isSealed y_initial x_superDraft y_draftHas y_draftInitial y_lists y_listLength y_gone x_objectClass y_slots x_parameterCount x_methodGeneric y_single y_special x_tokenKind x_tokenCount x_tokenValue y_methodAt y_pc y_chosen y_many y_reached y_opsAt y_broken y_arguments y_operands y_operator y_got) → D post') : ∀ n, cm_fi (cm_A x_parameterCount x_tokenKind x_tokenValue) s ((m, pl, pc, ar, its) :: K) 0 < n + 1 → wX_call_23 (fun r u' => D (fun r' v' => r' = r ∧ i_Rel kk u' v')) (n + 1) (nI tt) (nI nc) (nI ns) (nI no) (nI nd) (-2) (nI s) (-9223372036854775808) x_enterGeneric x_enterPlace (nI (K.length + 1)) (nI (cm_ko (cm_vx x_tokenKind) ((m, pl, pc, ar, its) :: K))) (nI (cm_kv (cm_vx x_tokenKind) ((m, pl, pc, ar, its) :: K))) x_lineClass x_lineLength x_isSealed x_classHasSlot x_classSlot x_superDraft x_objectClass x_objectHasSlot x_objectSlot x_parameterCount x_methodGeneric x_specialiser x_tokenKind x_tokenValue x_tokenCount x_argument x_rank x_orderPlace x_frameMethod x_framePlace x_frameToken x_frameOperators x_frameArgument x_operatorKind x_operatorValue x_operatorLeft x_workedOut := by
  obtain ⟨k1, k2, k3, k4⟩ := cm_J_cnt h
  have hd := h.2.2.2.1
  have hX := h.2.2.2.2.2.2.1.1
  have hYl := h.2.2.2.2.2.2.2.1.1
  have ho := h.1
  have eMX : x_frameMethod K.length = nI m := hX.1
  have ePX : x_framePlace K.length = nI pl := hX.2.1
  have eTX : x_frameToken K.length = nI pc := hX.2.2.1
  have eMY : y_methodAt K.length = nI m := hYl.1
  have ePY : y_reached K.length = nI pl := hYl.2.1
  have eTY : y_pc K.length = nI pc := hYl.2.2.1
  have hJ := cm_mv_pc hC.2.2.2.2.2.1 h hs (by rw [cm_kind ek]; rfl) (wo' := x_workedOut) (fun j hj => rfl)
  have hV := cm_JV hJ
  obtain ⟨g, p, t, b1, b2, b3, b4, b5, b6, b7, b8, b9, b10, b11, b12, b13⟩ := h.2.2.2.2.1
  have hly := h.2.2.2.2.2.2.2.2.1 g p b2 b4 b6 b7
  dsimp only at b1 b6 b8 b12 b13 hly
  obtain ⟨l1, l2, l3⟩ := hly
  have enp := cm_np_e b2 b4 b6 b7
  have eAX : ∀ q, q < p → x_frameArgument (3 * K.length + q) = ar q := fun q hq => hX.2.2.2.2.1 q (by show q < cm_np _ _ m; rw [enp]; exact hq)
  have eAY : ∀ q, q < p → y_arguments (3 * K.length + q) = ar q := fun q hq => hYl.2.2.2.2.1 q (by show q < cm_np _ _ m; rw [enp]; exact hq)
  have hW : or_W nc no g p x_lineClass x_lineLength x_objectClass x_parameterCount ar := ⟨hC.1, ho.1, ho.2.1, b2, b3, b4, b7, b12⟩
  have hle := or_mn_le (or_R x_lineClass x_lineLength x_objectClass x_specialiser ar p) p (or_L x_methodGeneric (or_R x_lineClass x_lineLength x_objectClass x_specialiser ar p) g p)
  have e1 : cm_kl (cm_A x_parameterCount x_tokenKind x_tokenValue) ((m, pl, pc + 1, ar, its) :: K) = cm_kl (cm_A x_parameterCount x_tokenKind x_tokenValue) ((m, pl, pc, ar, its) :: K) := rfl
  have e2 : ((m, pl, pc + 1, ar, its) :: K).length = K.length + 1 := rfl
  have e3 : ((m, pl, pc, ar, its) :: K).length = K.length + 1 := rfl
  unfold cm_fi at hmu htt
  intro n hn'
  unfold cm_fi at hn'
  obtain ⟨n1, rfl⟩ : ∃ n1, n = n1 + 1 := ⟨n - 1, by omega⟩
  refine mx_cl_W (by omega) (fun P hP => mx_wk_next hs hd b1 hpc eMX eTX ePX ek (fun ag hag => hP _ _ _ _ _ _ _ _ _ _ _ _ _ _ _ _ _ _ _ _ _ _ _ _ _ _ _ _ _ _ _ _ _ _ _ _ _ _ _ ?_))
  rw [b6]
  have hax : ∀ q, q < p → ag q = ar q := fun q hq => by rw [hag q (by omega), eAX q hq]
  have hbro : y_broken K.length = 0 ∨ y_broken K.length = 1 := by
    rw [l2]
    by_cases z : or_sq (or_R x_lineClass x_lineLength x_objectClass x_specialiser ar p) p (or_L x_methodGeneric (or_R x_lineClass x_lineLength x_objectClass x_specialiser ar p) g p) (or_mn (or_R x_lineClass x_lineLength x_objectClass x_specialiser ar p) p (or_L x_methodGeneric (or_R x_lineClass x_lineLength x_objectClass x_specialiser ar p) g p)) = 0
    · rw [bs_ct z]; exact Or.inl rfl
    · rw [bs_cf z]; exact Or.inr rfl
  have fin : ∀ F : Int32, ¬ F = 0 → 0 ≤ F → (∀ post' : SY → Prop, post' (nI nc, nI ns, nI no, nI nd, nI (K.length + 1), nI (cm_ko cm_al ((m, pl, pc, ar, its) :: K)), nI (cm_kv cm_al ((m, pl, pc, ar, its) :: K)), F, nI (s + 1), y_shownSteps, -9223372036854775808, x_lineClass, x_lineLength, y_has, x_isSealed, y_initial, x_superDraft, y_draftHas, y_draftInitial, y_lists, y_listLength, y_gone, x_objectClass, y_slots, x_parameterCount, x_methodGeneric, y_single, y_special, x_tokenKind, x_tokenCount, x_tokenValue, y_methodAt, upd y_pc K.length (nI (pc + 1)), y_chosen, y_many, y_reached, y_opsAt, y_broken, y_arguments, y_operands, y_operator, y_got) → wpY_next post' (nI nc, nI ns, nI no, nI nd, nI (K.length + 1), nI (cm_ko cm_al ((m, pl, pc, ar, its) :: K)), nI (cm_kv cm_al ((m, pl, pc, ar, its) :: K)), 0, nI (s + 1), y_shownSteps, -9223372036854775808, x_lineClass, x_lineLength, y_has, x_isSealed, y_initial, x_superDraft, y_draftHas, y_draftInitial, y_lists, y_listLength, y_gone, x_objectClass, y_slots, x_parameterCount, x_methodGeneric, y_single, y_special, x_tokenKind, x_tokenCount, x_tokenValue, y_methodAt, upd y_pc K.length (nI (pc + 1)), y_chosen, y_many, y_reached, y_opsAt, y_broken, y_arguments, y_operands, y_operator, y_got)) → ∀ rk op, wX_call_23 (fun r u' => D (fun r' v' => r' = r ∧ i_Rel kk u' v')) n1 (nI (tt + 1 + 1)) (nI nc) (nI ns) (nI no) (nI nd) F (nI (s + 1)) (-9223372036854775808) (nI g) (nI (pl + 1)) (nI (K.length + 1)) (nI (cm_ko (cm_vx x_tokenKind) ((m, pl, pc, ar, its) :: K))) (nI (cm_kv (cm_vx x_tokenKind) ((m, pl, pc, ar, its) :: K))) x_lineClass x_lineLength x_isSealed x_classHasSlot x_classSlot x_superDraft x_objectClass x_objectHasSlot x_objectSlot x_parameterCount x_methodGeneric x_specialiser x_tokenKind x_tokenValue x_tokenCount ag rk op x_frameMethod x_framePlace (upd x_frameToken K.length (nI (pc + 1))) x_frameOperators x_frameArgument x_operatorKind x_operatorValue x_operatorLeft x_workedOut := by
    intro F hF0 hF hE rk op
    exact cm_halt (y_depth := nI (K.length + 1)) (y_ops := nI (cm_ko cm_al ((m, pl, pc, ar, its) :: K))) (y_held := nI (cm_kv cm_al ((m, pl, pc, ar, its) :: K))) (y_shownSteps := y_shownSteps) (y_has := y_has) (y_initial := y_initial) (y_draftHas := y_draftHas) (y_draftInitial := y_draftInitial) (y_lists := y_lists) (y_listLength := y_listLength) (y_gone := y_gone) (y_slots := y_slots) (y_single := y_single) (y_special := y_special) (y_methodAt := y_methodAt) (y_pc := upd y_pc K.length (nI (pc + 1))) (y_chosen := y_chosen) (y_many := y_many) (y_reached := y_reached) (y_opsAt := y_opsAt) (y_broken := y_broken) (y_arguments := y_arguments) (y_operands := y_operands) (y_operator := y_operator) (y_got := y_got) hF0 hF hC hn ho (fun post' he => by
      obtain ⟨n2, hcl⟩ := he
      exact hY post' ⟨n2 + 1, my_cl_work (by omega) (my_wk_next hs hd b1 hpc eMY eTY ek (fun Q hQ => hE Q (hQ _ hcl)))⟩) n1 (by omega)
  by_cases hlt : pl + 1 < or_mn (or_R x_lineClass x_lineLength x_objectClass x_specialiser ar p) p (or_L x_methodGeneric (or_R x_lineClass x_lineLength x_objectClass x_specialiser ar p) g p)
  · by_cases hd7 : K.length = 7
    · exact mx_cl_E (by omega) (fun P hP => mx_enterMethod rfl rfl hW hax (by omega) (by omega) (fun z => by omega) (fun z => by omega) (fun _ _ rk op => hP _ _ _ _ _ _ _ _ _ _ _ _ _ _ _ _ _ _ _ _ _ _ _ _ _ _ _ _ _ _ _ _ _ _ _ _ _ _ _ (fin 6 (by decide) (by decide) (fun post' hp => my_next_f hd (pl := pl) (by omega) hle ePY l1 (fun z => by omega) (fun z => by omega) (fun _ _ => hp) (Or.inr hd7)) rk op)) (fun _ z => by omega))
    · have hx := or_mn_lt hlt
      obtain ⟨ch, ⟨hc1, hc2⟩, hk⟩ := my_next_e (y_classes := nI nc) (y_supers := nI ns) (y_objects := nI no) (y_specials := nI nd) (y_held := nI (cm_kv cm_al ((m, pl, pc, ar, its) :: K))) (y_fault := 0) (y_steps := nI (s + 1)) (y_shownSteps := y_shownSteps) (y_result := -9223372036854775808) (y_line := x_lineClass) (y_lineLength := x_lineLength) (y_has := y_has) (y_sealed := x_isSealed) (y_initial := y_initial) (y_drafted := x_superDraft) (y_draftHas := y_draftHas) (y_draftInitial := y_draftInitial) (y_lists := y_lists) (y_listLength := y_listLength) (y_gone := y_gone) (y_classOfObject := x_objectClass) (y_slots := y_slots) (y_parameters := x_parameterCount) (y_generic := x_methodGeneric) (y_single := y_single) (y_special := y_special) (y_kind := x_tokenKind) (y_tokens := x_tokenCount) (y_with := x_tokenValue) (y_methodAt := y_methodAt) (y_pc := upd y_pc K.length (nI (pc + 1))) (y_chosen := y_chosen) (y_many := y_many) (y_reached := y_reached) (y_opsAt := y_opsAt) (y_broken := y_broken) (y_arguments := y_arguments) (y_operands := y_operands) (y_operator := y_operator) (y_got := y_got) (d := K.length) (pl := pl) (mnN := or_mn (or_R x_lineClass x_lineLength x_objectClass x_specialiser ar p) p (or_L x_methodGeneric (or_R x_lineClass x_lineLength x_objectClass x_specialiser ar p) g p)) (oc := cm_ko cm_al ((m, pl, pc, ar, its) :: K)) (x := or_ld (or_R x_lineClass x_lineLength x_objectClass x_specialiser ar p) p (or_sq (or_R x_lineClass x_lineLength x_objectClass x_specialiser ar p) p (or_L x_methodGeneric (or_R x_lineClass x_lineLength x_objectClass x_specialiser ar p) g p) (pl + 1))) (by omega) hlt hle (by omega) hx ePY l1 hbro (fun j hj => ⟨_, or_mn_lt hj, l3 j hj⟩) (l3 (pl + 1) hlt)
      refine mx_cl_E (by omega) (fun P hP => mx_enterMethod rfl rfl hW hax (by omega) (by omega) (fun z => by omega) (fun z => by omega) (fun _ z => by omega) (fun _ hd2 rk op fA hf1 hf2 => hP _ _ _ _ _ _ _ _ _ _ _ _ _ _ _ _ _ _ _ _ _ _ _ _ _ _ _ _ _ _ _ _ _ _ _ _ _ _ _ ?_))
      refine cm_E_push (y_shownSteps := y_shownSteps) (y_has := y_has) (y_initial := y_initial) (y_draftHas := y_draftHas) (y_draftInitial := y_draftInitial) (y_lists := y_lists) (y_listLength := y_listLength) (y_gone := y_gone) (y_slots := y_slots) (y_single := y_single) (y_special := y_special) (y_methodAt := y_methodAt) (y_pc := upd y_pc K.length (nI (pc + 1))) (y_chosen := y_chosen) (y_many := y_many) (y_reached := y_reached) (y_opsAt := y_opsAt) (y_broken := y_broken) (y_arguments := y_arguments) (y_operands := y_operands) (y_operator := y_operator) (y_got := y_got) (K := (m, pl, pc + 1, ar, its) :: K) (pl := pl + 1) (t := 0) (ar := ar) (g := g) (p := p) (ch' := ch) (mn' := upd y_many (K.length + 1) (nI (or_mn (or_R x_lineClass x_lineLength x_objectClass x_specialiser ar p) p (or_L x_methodGeneric (or_R x_lineClass x_lineLength x_objectClass x_specialiser ar p) g p)))) (bk' := upd y_broken (K.length + 1) (y_broken K.length)) (ag' := ca_ag y_arguments (3 * (K.length + 1)) (y_arguments (3 * K.length)) (y_arguments (3 * K.length + 1)) (y_arguments (3 * K.length + 2))) (s := s + 1) (tt := tt + 1 + 1) hC ihW hV hn hd2 b2 b3 b4 b7 b12 hlt rfl (fun q hq => by rw [e2, hf1 q (by omega), hax q hq]) (fun j hj => hf2 j hj) (fun q hq => ?_) (fun j hj => ca_ag_n (Or.inl hj)) pk_us (by show upd y_broken (K.length + 1) (y_broken K.length) (K.length + 1) = _; rw [pk_us]; exact l2) (fun j hj => ?_) (fun j hj => ?_) (fun j hj => hc2 j hj) (by unfold cm_fi; omega) (by unfold cm_fi; omega) (fun post' he => ?_) n1 (by unfold cm_fi; omega)
      · rw [e2, ca_ag_k (by omega), ← eAY q hq]
        have hq3 : q = 0 ∨ q = 1 ∨ q = 2 := by omega
        rcases hq3 with rfl | rfl | rfl
        · rfl
        · rfl
        · rfl
      · rw [e2, hc1 j hj]; exact l3 j hj
      · rw [e2] at hj
        rw [pk_un (by omega), pk_un (by omega)]
        exact ⟨rfl, rfl⟩
      · obtain ⟨n2, hcl⟩ := he
        exact hY post' ⟨n2 + 1, my_cl_work (by omega) (my_wk_next hs hd b1 hpc eMY eTY ek (fun Q hQ => hk Q (hQ _ hcl)))⟩
  · by_cases hz : or_sq (or_R x_lineClass x_lineLength x_objectClass x_specialiser ar p) p (or_L x_methodGeneric (or_R x_lineClass x_lineLength x_objectClass x_specialiser ar p) g p) (or_mn (or_R x_lineClass x_lineLength x_objectClass x_specialiser ar p) p (or_L x_methodGeneric (or_R x_lineClass x_lineLength x_objectClass x_specialiser ar p) g p)) = 0
    · have hb0 : y_broken K.length = 0 := by rw [l2, bs_ct hz]
      refine mx_cl_E (by omega) (fun P hP => mx_enterMethod rfl rfl hW hax (by omega) (by omega) (fun _ z => absurd hz z) (fun _ _ rk op => hP _ _ _ _ _ _ _ _ _ _ _ _ _ _ _ _ _ _ _ _ _ _ _ _ _ _ _ _ _ _ _ _ _ _ _ _ _ _ _ ?_) (fun z => by omega) (fun z => by omega))
      rw [bs_cf (by omega)]
      exact fin 3 (by decide) (by decide) (fun post' hp => my_next_f hd (pl := pl) (by omega) hle ePY l1 (fun _ _ => hp) (fun _ z => absurd hb0 z) (fun z => by omega) (Or.inl (by omega))) rk op
    · have hb1 : ¬ y_broken K.length = 0 := by rw [l2, bs_cf hz]; decide
      exact mx_cl_E (by omega) (fun P hP => mx_enterMethod rfl rfl hW hax (by omega) (by omega) (fun _ _ rk op => hP _ _ _ _ _ _ _ _ _ _ _ _ _ _ _ _ _ _ _ _ _ _ _ _ _ _ _ _ _ _ _ _ _ _ _ _ _ _ _ (fin 2 (by decide) (by decide) (fun post' hp => my_next_f hd (pl := pl) (by omega) hle ePY l1 (fun _ z => absurd z hb1) (fun _ _ => hp) (fun z => by omega) (Or.inl (by omega))) rk op)) (fun _ z => absurd z hz) (fun z => by omega) (fun z => by omega))
theorem cm_W_make {μ no s tt m pl pc c : Nat} {ar : Nat → Int64} {its : List cm_It} {K : List cm_Fr} (hC : cm_C nc no0 ns nd x_lineClass x_lineLength x_methodGeneric x_parameterCount x_specialiser x_tokenKind x_tokenValue x_tokenCount x_isSealed x_classHasSlot x_classSlot x_superDraft y_has y_initial y_draftHas y_draftInitial y_lists y_listLength y_gone y_single y_special y_shownSteps) (ihT : cm_PT D kk nc no0 ns nd x_lineClass x_lineLength x_methodGeneric x_parameterCount x_specialiser x_tokenKind x_tokenValue x_tokenCount x_isSealed x_classHasSlot x_classSlot x_superDraft y_has y_initial y_draftHas y_draftInitial y_lists y_listLength y_gone y_single y_special y_shownSteps μ) (h : cm_J nc (1) ((m, pl, pc, ar, its)) (K) (s) (no) x_lineClass x_lineLength x_methodGeneric x_parameterCount x_specialiser x_tokenKind x_tokenValue x_tokenCount x_objectClass x_objectHasSlot x_objectSlot x_frameMethod x_framePlace x_frameToken x_frameOperators x_frameArgument x_operatorKind x_operatorValue x_operatorLeft x_workedOut y_slots y_methodAt y_reached y_pc y_opsAt y_arguments y_operator y_got y_operands y_many y_broken y_chosen) (hn : no0 ≤ no) (hs : s < 120) (hm : m < 24) (hpc : pc < 16) (hc : c < nc) (ek : x_tokenKind (16 * m + pc) = nI 12) (ea : x_tokenValue (16 * m + pc) = nI c) (hmu : cm_fi (cm_A x_parameterCount x_tokenKind x_tokenValue) s ((m, pl, pc, ar, its) :: K) 0 ≤ μ + 1) (htt : tt + cm_fi (cm_A x_parameterCount x_tokenKind x_tokenValue) s ((m, pl, pc, ar, its) :: K) 0 ≤ 4000)
    (hY : ∀ post' : Int32 → SY → Prop, (∃ n, wY_call_62 post' n (nI nc) (nI ns) (nI no) (nI nd) (nI (K.length + 1)) (nI (cm_ko cm_al ((m, pl, pc, ar, its) :: K))) (nI (cm_kv cm_al ((m, pl, pc, ar, its) :: K))) 0 (nI s) y_shownSteps (-9223372036854775808) x_lineClass x_lineLength y_has x_isSealed y_initial x_superDraft y_draftHas y_draftInitial y_lists y_listLength y_gone x_objectClass y_slots x_parameterCount x_methodGeneric y_single y_special x_tokenKind x_tokenCount x_tokenValue y_methodAt y_pc y_chosen y_many y_reached y_opsAt y_broken y_arguments y_operands y_operator y_got) → D post') : ∀ n, cm_fi (cm_A x_parameterCount x_tokenKind x_tokenValue) s ((m, pl, pc, ar, its) :: K) 0 < n + 1 → wX_call_23 (fun r u' => D (fun r' v' => r' = r ∧ i_Rel kk u' v')) (n + 1) (nI tt) (nI nc) (nI ns) (nI no) (nI nd) (-2) (nI s) (-9223372036854775808) x_enterGeneric x_enterPlace (nI (K.length + 1)) (nI (cm_ko (cm_vx x_tokenKind) ((m, pl, pc, ar, its) :: K))) (nI (cm_kv (cm_vx x_tokenKind) ((m, pl, pc, ar, its) :: K))) x_lineClass x_lineLength x_isSealed x_classHasSlot x_classSlot x_superDraft x_objectClass x_objectHasSlot x_objectSlot x_parameterCount x_methodGeneric x_specialiser x_tokenKind x_tokenValue x_tokenCount x_argument x_rank x_orderPlace x_frameMethod x_framePlace x_frameToken x_frameOperators x_frameArgument x_operatorKind x_operatorValue x_operatorLeft x_workedOut := by
  obtain ⟨k1, k2, k3, k4⟩ := cm_J_cnt h
  have hd := h.2.2.2.1
  have hX := h.2.2.2.2.2.2.1.1
  have hYl := h.2.2.2.2.2.2.2.1.1
  have ho := h.1
  have h16 := hC.1.2.1
  obtain ⟨l, hl, el, _⟩ := hC.1.2.2 c hc
  have e1 : cm_kl (cm_A x_parameterCount x_tokenKind x_tokenValue) ((m, pl, pc + 1, ar, its) :: K) = cm_kl (cm_A x_parameterCount x_tokenKind x_tokenValue) ((m, pl, pc, ar, its) :: K) := rfl
  have e2 : ((m, pl, pc + 1, ar, its) :: K).length = ((m, pl, pc, ar, its) :: K).length := rfl
  unfold cm_fi at hmu htt
  intro n hn'
  unfold cm_fi at hn'
  have fin : ∀ F : Int32, ¬ F = 0 → 0 ≤ F → (∀ post' : SY → Prop, post' (nI nc, nI ns, nI no, nI nd, nI (K.length + 1), nI (cm_ko cm_al ((m, pl, pc, ar, its) :: K)), nI (cm_kv cm_al ((m, pl, pc, ar, its) :: K)), F, nI (s + 1), y_shownSteps, -9223372036854775808, x_lineClass, x_lineLength, y_has, x_isSealed, y_initial, x_superDraft, y_draftHas, y_draftInitial, y_lists, y_listLength, y_gone, x_objectClass, y_slots, x_parameterCount, x_methodGeneric, y_single, y_special, x_tokenKind, x_tokenCount, x_tokenValue, y_methodAt, upd y_pc K.length (nI (pc + 1)), y_chosen, y_many, y_reached, y_opsAt, y_broken, y_arguments, y_operands, y_operator, y_got) → wpY_work post' (nI nc, nI ns, nI no, nI nd, nI (K.length + 1), nI (cm_ko cm_al ((m, pl, pc, ar, its) :: K)), nI (cm_kv cm_al ((m, pl, pc, ar, its) :: K)), 0, nI s, y_shownSteps, -9223372036854775808, x_lineClass, x_lineLength, y_has, x_isSealed, y_initial, x_superDraft, y_draftHas, y_draftInitial, y_lists, y_listLength, y_gone, x_objectClass, y_slots, x_parameterCount, x_methodGeneric, y_single, y_special, x_tokenKind, x_tokenCount, x_tokenValue, y_methodAt, y_pc, y_chosen, y_many, y_reached, y_opsAt, y_broken, y_arguments, y_operands, y_operator, y_got)) → wX_call_23 (fun r u' => D (fun r' v' => r' = r ∧ i_Rel kk u' v')) n (nI (tt + 1)) (nI nc) (nI ns) (nI no) (nI nd) F (nI (s + 1)) (-9223372036854775808) x_enterGeneric x_enterPlace (nI (K.length + 1)) (nI (cm_ko (cm_vx x_tokenKind) ((m, pl, pc, ar, its) :: K))) (nI (cm_kv (cm_vx x_tokenKind) ((m, pl, pc, ar, its) :: K))) x_lineClass x_lineLength x_isSealed x_classHasSlot x_classSlot x_superDraft x_objectClass x_objectHasSlot x_objectSlot x_parameterCount x_methodGeneric x_specialiser x_tokenKind x_tokenValue x_tokenCount x_argument x_rank x_orderPlace x_frameMethod x_framePlace (upd x_frameToken K.length (nI (pc + 1))) x_frameOperators x_frameArgument x_operatorKind x_operatorValue x_operatorLeft x_workedOut := by
    intro F hF0 hF hE
    exact cm_halt (y_depth := nI (K.length + 1)) (y_ops := nI (cm_ko cm_al ((m, pl, pc, ar, its) :: K))) (y_held := nI (cm_kv cm_al ((m, pl, pc, ar, its) :: K))) (y_shownSteps := y_shownSteps) (y_has := y_has) (y_initial := y_initial) (y_draftHas := y_draftHas) (y_draftInitial := y_draftInitial) (y_lists := y_lists) (y_listLength := y_listLength) (y_gone := y_gone) (y_slots := y_slots) (y_single := y_single) (y_special := y_special) (y_methodAt := y_methodAt) (y_pc := upd y_pc K.length (nI (pc + 1))) (y_chosen := y_chosen) (y_many := y_many) (y_reached := y_reached) (y_opsAt := y_opsAt) (y_broken := y_broken) (y_arguments := y_arguments) (y_operands := y_operands) (y_operator := y_operator) (y_got := y_got) hF0 hF hC hn ho (fun post' he => by
      obtain ⟨n2, hcl⟩ := he
      exact hY post' ⟨n2 + 1, my_cl_work (by omega) (hE (cm_Q post' n2) hcl)⟩) n (by omega)
  by_cases hc1 : c = 1
  · subst hc1
    exact mx_cl_W (by omega) (fun P hP => mx_wk_make hs hd hm hpc hX.1 hX.2.2.1 hC.1 hc hl el ho.1 (by omega) ek ea (fun _ => hP _ _ _ _ _ _ _ _ _ _ _ _ _ _ _ _ _ _ _ _ _ _ _ _ _ _ _ _ _ _ _ _ _ _ _ _ _ _ _ (fin 5 (by decide) (by decide) (fun post' hp => my_wk_mk1 hs hd hm hpc hYl.1 hYl.2.2.1 ek ea hp))) (fun z => absurd rfl z) (fun z => absurd rfl z))
  · by_cases hno : no = 20
    · subst hno
      exact mx_cl_W (by omega) (fun P hP => mx_wk_make hs hd hm hpc hX.1 hX.2.2.1 hC.1 hc hl el ho.1 (by omega) ek ea (fun z => absurd z hc1) (fun _ _ => hP _ _ _ _ _ _ _ _ _ _ _ _ _ _ _ _ _ _ _ _ _ _ _ _ _ _ _ _ _ _ _ _ _ _ _ _ _ _ _ (fin 8 (by decide) (by decide) (fun post' hp => my_wk_mk8 hs hd hm hpc hYl.1 hYl.2.2.1 (c := c) (by omega) hc1 ek ea hp))) (fun _ z => by omega))
    · have hno20 := ho.1
      obtain ⟨SL', hPY, hk⟩ := my_make_e (y_supers := nI ns) (y_specials := nI nd) (y_depth := nI (K.length + 1)) (y_ops := nI (cm_ko cm_al ((m, pl, pc, ar, its) :: K))) (y_held := nI (cm_kv cm_al ((m, pl, pc, ar, its) :: K))) (y_fault := 0) (y_steps := nI (s + 1)) (y_shownSteps := y_shownSteps) (y_result := -9223372036854775808) (y_line := x_lineClass) (y_lineLength := x_lineLength) (y_has := y_has) (y_sealed := x_isSealed) (y_initial := y_initial) (y_drafted := x_superDraft) (y_draftHas := y_draftHas) (y_draftInitial := y_draftInitial) (y_lists := y_lists) (y_listLength := y_listLength) (y_gone := y_gone) (y_classOfObject := x_objectClass) (y_slots := y_slots) (y_parameters := x_parameterCount) (y_generic := x_methodGeneric) (y_single := y_single) (y_special := y_special) (y_kind := x_tokenKind) (y_tokens := x_tokenCount) (y_with := x_tokenValue) (y_methodAt := y_methodAt) (y_pc := upd y_pc K.length (nI (pc + 1))) (y_chosen := y_chosen) (y_many := y_many) (y_reached := y_reached) (y_opsAt := y_opsAt) (y_broken := y_broken) (y_arguments := y_arguments) (y_operands := y_operands) (y_operator := y_operator) (y_got := y_got) (no := no) hC.1 hc hc1 hl el (by omega)
      refine mx_cl_W (by omega) (fun P hP => mx_wk_make hs hd hm hpc hX.1 hX.2.2.1 hC.1 hc hl el ho.1 (by omega) ek ea (fun z => absurd z hc1) (fun _ z => absurd z hno) (fun _ hlt OH' OS' hPX => hP _ _ _ _ _ _ _ _ _ _ _ _ _ _ _ _ _ _ _ _ _ _ _ _ _ _ _ _ _ _ _ _ _ _ _ _ _ _ _ ?_))
      have hJ := cm_mv_pc hC.2.2.2.2.2.1 h hs (by rw [cm_kind ek]; rfl) (wo' := vp_updL x_workedOut (cm_kv (cm_vx x_tokenKind) ((m, pl, pc, ar, its) :: K)) (lN (4294967296 + no))) (fun j hj => pk_uLn (by omega))
      have hJ2 := cm_mv_obj (no' := no + 1) hJ (by omega) (OC' := upd x_objectClass no (nI c)) (OH' := OH') (OS' := OS') (SL' := SL') (fun k hk => pk_un (by omega)) (mk_obj hC.1 hC.2.2.1 ho hc hl el hlt hPX hPY)
      exact ihT (no + 1) (s + 1) (tt + 1) (lN (4294967296 + no)) (m, pl, pc + 1, ar, its) K _ _ _ _ _ _ _ _ _ _ _ _ x_argument x_rank x_orderPlace x_enterGeneric x_enterPlace _ _ _ _ _ _ _ _ _ _ _ _ hJ2 (by omega) (Or.inr ⟨no, by omega, rfl⟩) pk_uLs (by unfold cm_fi; omega) (by unfold cm_fi; omega) (fun post' he => by
        obtain ⟨n2, n5, hdl⟩ := he
        exact hY post' ⟨n2 + 1, my_cl_work (by omega) (my_wk_mk hs hd hm hpc hYl.1 hYl.2.2.1 (SL' := SL') (c := c) (by omega) hc1 hlt ek ea (fun P hp => hk P hp) ⟨n5, hdl⟩)⟩) n (by unfold cm_fi; omega)
theorem cm_Wstep {μ : Nat} (hC : cm_C nc no0 ns nd x_lineClass x_lineLength x_methodGeneric x_parameterCount x_specialiser x_tokenKind x_tokenValue x_tokenCount x_isSealed x_classHasSlot x_classSlot x_superDraft y_has y_initial y_draftHas y_draftInitial y_lists y_listLength y_gone y_single y_special y_shownSteps) (ihW : cm_PW D kk nc no0 ns nd x_lineClass x_lineLength x_methodGeneric x_parameterCount x_specialiser x_tokenKind x_tokenValue x_tokenCount x_isSealed x_classHasSlot x_classSlot x_superDraft y_has y_initial y_draftHas y_draftInitial y_lists y_listLength y_gone y_single y_special y_shownSteps μ) (ihT : cm_PT D kk nc no0 ns nd x_lineClass x_lineLength x_methodGeneric x_parameterCount x_specialiser x_tokenKind x_tokenValue x_tokenCount x_isSealed x_classHasSlot x_classSlot x_superDraft y_has y_initial y_draftHas y_draftInitial y_lists y_listLength y_gone y_single y_special y_shownSteps μ) : cm_PW D kk nc no0 ns nd x_lineClass x_lineLength x_methodGeneric x_parameterCount x_specialiser x_tokenKind x_tokenValue x_tokenCount x_isSealed x_classHasSlot x_classSlot x_superDraft y_has y_initial y_draftHas y_draftInitial y_lists y_listLength y_gone y_single y_special y_shownSteps (μ + 1) := by
  intro no s tt f K
  intros
  rename_i h hn hmu htt hY n hn'
  obtain ⟨m, pl, pc, ar, its⟩ := f
  obtain ⟨n1, rfl⟩ : ∃ n1, n = n1 + 1 := ⟨n - 1, by omega⟩
  have e3 : ((m, pl, pc, ar, its) :: K).length = K.length + 1 := rfl
  by_cases hs : s = 120
  · subst hs
    unfold cm_fi at htt hn'
    exact cm_W_long hC h hn (by omega) hY n1 (by omega)
  · have hs2 : s < 120 := by have := h.2.1; omega
    obtain ⟨g, p, t, a1, a2, a3, a4, a5, a6, a7, a8, a9, a10, a11, a12⟩ := cm_tok (x := 1) hC.2.2.2.2.2.1 h
    have htk := a10 pc a9
    obtain ⟨q, hq, eq, hq1, hq3, hq45, hq11⟩ := htk
    have hpc : pc < 16 := by omega
    by_cases q0 : q = 0
    · subst q0
      exact cm_W_num hC ihT h hn hs2 a1 hpc eq hmu htt hY n1 hn'
    · by_cases q1 : q = 1
      · subst q1
        have hbd := (hC.2.2.2.2.2.2.1 m g p t a1 a2 a4 a5 a6 a7 a8).1 pc a9 eq
        obtain ⟨a, ha, ea⟩ := hbd
        exact cm_W_arg hC ihT h hn hs2 a1 hpc a2 a4 a6 a7 ha (a12 a ha) eq ea hmu htt hY n1 hn'
      · by_cases q2 : q = 2
        · subst q2
          exact cm_W_next hC ihW h hn hs2 hpc eq hmu htt hY n1 hn'
        · by_cases q12 : q = 12
          · subst q12
            obtain ⟨c, hc, ec⟩ := hq11 (Or.inr rfl)
            exact cm_W_make hC ihT h hn hs2 a1 hpc hc eq ec hmu htt hY n1 hn'
          · refine cm_W_op (t := t) hC ihW h hn hs2 a1 hpc eq (by omega) (by omega) ?_ (a10 pc a9) hmu htt hY n1 hn'
            rw [cm_kind eq]
            have hs9 : q = 3 ∨ q = 4 ∨ q = 5 ∨ q = 6 ∨ q = 7 ∨ q = 8 ∨ q = 9 ∨ q = 10 ∨ q = 11 := by omega
            rcases hs9 with rfl | rfl | rfl | rfl | rfl | rfl | rfl | rfl | rfl
            · obtain ⟨a, ha, ea⟩ := hq3 rfl
              obtain ⟨pp, hpp1, hpp3, epp⟩ := hC.2.2.2.1 a ha
              rw [ea]
              show 1 ≤ (x_parameterCount (nI a).toNatClampNeg).toNatClampNeg
              rw [bs_clk (by omega), epp, bs_clk (by omega)]
              exact hpp1
            · show 1 ≤ 1; omega
            · show 1 ≤ 2; omega
            · show 1 ≤ 2; omega
            · show 1 ≤ 2; omega
            · show 1 ≤ 2; omega
            · show 1 ≤ 3; omega
            · show 1 ≤ 2; omega
            · show 1 ≤ 1; omega
end
end
section
/-! the simulation: a value taken -/
section
variable {x_classCount : Int32} {x_superCount : Int32} {x_objectCount : Int32} {x_draftSpecialCount : Int32} {x_state : Int32} {x_stepCount : Int32} {x_latestValue : Int64} {x_enterGeneric : Int32} {x_enterPlace : Int32} {x_frameCount : Int32} {x_operatorCount : Int32} {x_valueCount : Int32} {x_lineClass : Nat → Int32} {x_lineLength : Nat → Int32} {x_isSealed : Nat → Int32} {x_classHasSlot : Nat → Int32} {x_classSlot : Nat → Int32} {x_superDraft : Nat → Int32} {x_objectClass : Nat → Int32} {x_objectHasSlot : Nat → Int32} {x_objectSlot : Nat → Int64} {x_parameterCount : Nat → Int32} {x_methodGeneric : Nat → Int32} {x_specialiser : Nat → Int64} {x_tokenKind : Nat → Int32} {x_tokenValue : Nat → Int32} {x_tokenCount : Nat → Int32} {x_argument : Nat → Int64} {x_rank : Nat → Int32} {x_orderPlace : Nat → Int32} {x_frameMethod : Nat → Int32} {x_framePlace : Nat → Int32} {x_frameToken : Nat → Int32} {x_frameOperators : Nat → Int32} {x_frameArgument : Nat → Int64} {x_operatorKind : Nat → Int32} {x_operatorValue : Nat → Int32} {x_operatorLeft : Nat → Int32} {x_workedOut : Nat → Int64} {y_classes : Int32} {y_supers : Int32} {y_objects : Int32} {y_specials : Int32} {y_depth : Int32} {y_ops : Int32} {y_held : Int32} {y_fault : Int32} {y_steps : Int32} {y_shownSteps : Int32} {y_result : Int64} {y_line : Nat → Int32} {y_lineLength : Nat → Int32} {y_has : Nat → Int32} {y_sealed : Nat → Int32} {y_initial : Nat → Int32} {y_drafted : Nat → Int32} {y_draftHas : Nat → Int32} {y_draftInitial : Nat → Int32} {y_lists : Nat → Int32} {y_listLength : Nat → Int32} {y_gone : Nat → Int32} {y_classOfObject : Nat → Int32} {y_slots : Nat → Int64} {y_parameters : Nat → Int32} {y_generic : Nat → Int32} {y_single : Nat → Int32} {y_special : Nat → Int64} {y_kind : Nat → Int32} {y_tokens : Nat → Int32} {y_with : Nat → Int32} {y_methodAt : Nat → Int32} {y_pc : Nat → Int32} {y_chosen : Nat → Int32} {y_many : Nat → Int32} {y_reached : Nat → Int32} {y_opsAt : Nat → Int32} {y_broken : Nat → Int32} {y_arguments : Nat → Int64} {y_operands : Nat → Int64} {y_operator : Nat → Int32} {y_got : Nat → Int32} {D : (Int32 → SY → Prop) → Prop} {kk nc no0 ns nd : Nat}
theorem cm_item {x s no m pl pc c g n : Nat} {z : Nat → Int64} {ar : Nat → Int64} {r : List cm_It} {K : List cm_Fr} (h : cm_J nc (x) ((m, pl, pc, ar, (c, g, n, z) :: r)) (K) (s) (no) x_lineClass x_lineLength x_methodGeneric x_parameterCount x_specialiser x_tokenKind x_tokenValue x_tokenCount x_objectClass x_objectHasSlot x_objectSlot x_frameMethod x_framePlace x_frameToken x_frameOperators x_frameArgument x_operatorKind x_operatorValue x_operatorLeft x_workedOut y_slots y_methodAt y_reached y_pc y_opsAt y_arguments y_operator y_got y_operands y_many y_broken y_chosen) (hvis : (cm_vx x_tokenKind) (c, g, n, z) = true) : x_frameOperators K.length = nI (cm_ko (cm_vx x_tokenKind) K) ∧ x_frameMethod K.length = nI m ∧ x_frameToken K.length = nI pc ∧ x_operatorKind (cm_ko (cm_vx x_tokenKind) K + cm_ni (cm_vx x_tokenKind) r) = x_tokenKind c ∧ x_operatorValue (cm_ko (cm_vx x_tokenKind) K + cm_ni (cm_vx x_tokenKind) r) = x_tokenValue c ∧ x_operatorLeft (cm_ko (cm_vx x_tokenKind) K + cm_ni (cm_vx x_tokenKind) r) = nI ((cm_A x_parameterCount x_tokenKind x_tokenValue) c - g) ∧ (∀ q, q < n → x_workedOut (cm_kv (cm_vx x_tokenKind) K + cm_nv (cm_vx x_tokenKind) r + q) = z q) ∧ cm_ko (cm_vx x_tokenKind) ((m, pl, pc, ar, (c, g, n, z) :: r) :: K) = (cm_ko (cm_vx x_tokenKind) K + cm_ni (cm_vx x_tokenKind) r) + 1 ∧ cm_kv (cm_vx x_tokenKind) ((m, pl, pc, ar, (c, g, n, z) :: r) :: K) = cm_kv (cm_vx x_tokenKind) K + cm_nv (cm_vx x_tokenKind) r + n := by
  obtain ⟨⟨e1, e2, e3, e4, e5, ⟨e6, _⟩⟩, _⟩ := h.2.2.2.2.2.2.1
  obtain ⟨f1, f2, f3, f4⟩ := e6 hvis
  refine ⟨e4, e1, e3, f1, f2, f3, f4, ?_, ?_⟩
  · show cm_ko (cm_vx x_tokenKind) K + cm_ni (cm_vx x_tokenKind) ((c, g, n, z) :: r) = _
    rw [cm_ni_t hvis]; rfl
  · show cm_kv (cm_vx x_tokenKind) K + cm_nv (cm_vx x_tokenKind) ((c, g, n, z) :: r) = _
    rw [cm_nv_t hvis, Nat.add_assoc]
theorem cm_itemY {x s no m pl pc c g n : Nat} {z : Nat → Int64} {ar : Nat → Int64} {r : List cm_It} {K : List cm_Fr} (h : cm_J nc (x) ((m, pl, pc, ar, (c, g, n, z) :: r)) (K) (s) (no) x_lineClass x_lineLength x_methodGeneric x_parameterCount x_specialiser x_tokenKind x_tokenValue x_tokenCount x_objectClass x_objectHasSlot x_objectSlot x_frameMethod x_framePlace x_frameToken x_frameOperators x_frameArgument x_operatorKind x_operatorValue x_operatorLeft x_workedOut y_slots y_methodAt y_reached y_pc y_opsAt y_arguments y_operator y_got y_operands y_many y_broken y_chosen) : y_opsAt K.length = nI (cm_ko cm_al K) ∧ y_methodAt K.length = nI m ∧ y_pc K.length = nI pc ∧ y_operator (cm_ko cm_al K + cm_ni cm_al r) = nI (c % 16) ∧ y_got (cm_ko cm_al K + cm_ni cm_al r) = nI g ∧ (∀ q, q < n → y_operands (cm_kv cm_al K + cm_nv cm_al r + q) = z q) ∧ cm_ko cm_al ((m, pl, pc, ar, (c, g, n, z) :: r) :: K) = (cm_ko cm_al K + cm_ni cm_al r) + 1 ∧ cm_kv cm_al ((m, pl, pc, ar, (c, g, n, z) :: r) :: K) = cm_kv cm_al K + cm_nv cm_al r + n := by
  obtain ⟨⟨e1, e2, e3, e4, e5, ⟨e6, _⟩⟩, _⟩ := h.2.2.2.2.2.2.2.1
  obtain ⟨f1, f2, f3, f4⟩ := e6 rfl
  refine ⟨e4, e1, e3, f1, f2, f4, rfl, ?_⟩
  show cm_kv cm_al K + (cm_nv cm_al r + n) = _
  rw [Nat.add_assoc]
theorem cm_T_leave {μ no s tt m pl pc : Nat} {v : Int64} {ar : Nat → Int64} {K : List cm_Fr} (hC : cm_C nc no0 ns nd x_lineClass x_lineLength x_methodGeneric x_parameterCount x_specialiser x_tokenKind x_tokenValue x_tokenCount x_isSealed x_classHasSlot x_classSlot x_superDraft y_has y_initial y_draftHas y_draftInitial y_lists y_listLength y_gone y_single y_special y_shownSteps) (ihT : cm_PT D kk nc no0 ns nd x_lineClass x_lineLength x_methodGeneric x_parameterCount x_specialiser x_tokenKind x_tokenValue x_tokenCount x_isSealed x_classHasSlot x_classSlot x_superDraft y_has y_initial y_draftHas y_draftInitial y_lists y_listLength y_gone y_single y_special y_shownSteps μ) (h : cm_J nc (0) ((m, pl, pc, ar, ([] : List cm_It))) (K) (s) (no) x_lineClass x_lineLength x_methodGeneric x_parameterCount x_specialiser x_tokenKind x_tokenValue x_tokenCount x_objectClass x_objectHasSlot x_objectSlot x_frameMethod x_framePlace x_frameToken x_frameOperators x_frameArgument x_operatorKind x_operatorValue x_operatorLeft x_workedOut y_slots y_methodAt y_reached y_pc y_opsAt y_arguments y_operator y_got y_operands y_many y_broken y_chosen) (hn : no0 ≤ no) (hv : rl_val no v) (hwo : x_workedOut (cm_kv (cm_vx x_tokenKind) ((m, pl, pc, ar, ([] : List cm_It)) :: K)) = v) (hmu : cm_fi (cm_A x_parameterCount x_tokenKind x_tokenValue) s ((m, pl, pc, ar, ([] : List cm_It)) :: K) 1 ≤ μ + 1) (htt : tt + cm_fi (cm_A x_parameterCount x_tokenKind x_tokenValue) s ((m, pl, pc, ar, ([] : List cm_It)) :: K) 1 ≤ 4000)
    (hY : ∀ post' : Int32 → SY → Prop, (∃ n9 n5, wY_deliver_5 (cm_Q post' n9) n5 v 1 (nI nc) (nI ns) (nI no) (nI nd) (nI (K.length + 1)) (nI (cm_ko cm_al ((m, pl, pc, ar, ([] : List cm_It)) :: K))) (nI (cm_kv cm_al ((m, pl, pc, ar, ([] : List cm_It)) :: K))) 0 (nI s) y_shownSteps (-9223372036854775808) x_lineClass x_lineLength y_has x_isSealed y_initial x_superDraft y_draftHas y_draftInitial y_lists y_listLength y_gone x_objectClass y_slots x_parameterCount x_methodGeneric y_single y_special x_tokenKind x_tokenCount x_tokenValue y_methodAt y_pc y_chosen y_many y_reached y_opsAt y_broken y_arguments y_operands y_operator y_got) → D post') : ∀ n', cm_fi (cm_A x_parameterCount x_tokenKind x_tokenValue) s ((m, pl, pc, ar, ([] : List cm_It)) :: K) 1 < n' + 1 → wX_call_23 (fun r u' => D (fun r' v' => r' = r ∧ i_Rel kk u' v')) (n' + 1) (nI tt) (nI nc) (nI ns) (nI no) (nI nd) (-3) (nI s) (-9223372036854775808) x_enterGeneric x_enterPlace (nI (K.length + 1)) (nI (cm_ko (cm_vx x_tokenKind) ((m, pl, pc, ar, ([] : List cm_It)) :: K))) (nI (cm_kv (cm_vx x_tokenKind) ((m, pl, pc, ar, ([] : List cm_It)) :: K) + 1)) x_lineClass x_lineLength x_isSealed x_classHasSlot x_classSlot x_superDraft x_objectClass x_objectHasSlot x_objectSlot x_parameterCount x_methodGeneric x_specialiser x_tokenKind x_tokenValue x_tokenCount x_argument x_rank x_orderPlace x_frameMethod x_framePlace x_frameToken x_frameOperators x_frameArgument x_operatorKind x_operatorValue x_operatorLeft x_workedOut := by
  obtain ⟨k1, k2, k3, k4⟩ := cm_J_cnt h
  have hd := h.2.2.2.1
  have eOX : x_frameOperators K.length = nI (cm_ko (cm_vx x_tokenKind) K) := h.2.2.2.2.2.2.1.1.2.2.2.1
  have eOY : y_opsAt K.length = nI (cm_ko cm_al K) := h.2.2.2.2.2.2.2.1.1.2.2.2.1
  have q1 : cm_ko (cm_vx x_tokenKind) ((m, pl, pc, ar, ([] : List cm_It)) :: K) = cm_ko (cm_vx x_tokenKind) K := rfl
  have q2 : cm_kv (cm_vx x_tokenKind) ((m, pl, pc, ar, ([] : List cm_It)) :: K) = cm_kv (cm_vx x_tokenKind) K := rfl
  have q3 : cm_ko cm_al ((m, pl, pc, ar, ([] : List cm_It)) :: K) = cm_ko cm_al K := rfl
  have q4 : cm_kv cm_al ((m, pl, pc, ar, ([] : List cm_It)) :: K) = cm_kv cm_al K := rfl
  have e4 : cm_kl (cm_A x_parameterCount x_tokenKind x_tokenValue) ((m, pl, pc, ar, ([] : List cm_It)) :: K) = cm_kl (cm_A x_parameterCount x_tokenKind x_tokenValue) K := rfl
  have e3 : ((m, pl, pc, ar, ([] : List cm_It)) :: K).length = K.length + 1 := rfl
  unfold cm_fi at hmu htt
  intro n' hn'
  unfold cm_fi at hn'
  rw [q1, q2]
  rw [q2] at hwo
  rw [q3, q4] at hY
  cases K with
  | nil =>
    refine mx_cl_T (by omega) (fun P hP => mx_tk_leave hd (by omega) eOX (fun _ => hP _ _ _ _ _ _ _ _ _ _ _ _ _ _ _ _ _ _ _ _ _ _ _ _ _ _ _ _ _ _ _ _ _ _ _ _ _ _ _ ?_) (fun zz => absurd rfl zz))
    obtain ⟨n1, rfl⟩ : ∃ n1, n' = n1 + 1 := ⟨n' - 1, by omega⟩
    have hv0 : x_workedOut 0 = v := hwo
    rw [hv0]
    refine mx_cl_end (by decide) (hY _ ⟨1, 3, my_dl_leave hd eOY (my_dl_end ?_)⟩)
    exact my_cl_ok ⟨rfl, cm_done hC hn h.1⟩
  | cons f2 K2 =>
    have e5 : (f2 :: K2).length = K2.length + 1 := rfl
    refine mx_cl_T (by omega) (fun P hP => mx_tk_leave hd (by omega) eOX (fun zz => by omega) (fun _ => hP _ _ _ _ _ _ _ _ _ _ _ _ _ _ _ _ _ _ _ _ _ _ _ _ _ _ _ _ _ _ _ _ _ _ _ _ _ _ _ ?_))
    exact ihT no s (tt + 1) v f2 K2 _ _ _ _ _ _ _ _ _ _ _ _ x_argument x_rank x_orderPlace x_enterGeneric x_enterPlace _ _ _ _ _ _ _ _ _ _ _ _ (cm_mv_leave h) hn hv hwo (by unfold cm_fi; omega) (by unfold cm_fi; omega) (fun post' he => by
      obtain ⟨n1, n5, hdl⟩ := he
      exact hY post' ⟨n1, n5 + 1, my_dl_leave hd eOY hdl⟩) n' (by unfold cm_fi; omega)
theorem cm_T_more {μ no s tt m pl pc c g n : Nat} {z : Nat → Int64} {q : Nat} {v : Int64} {ar : Nat → Int64} {r : List cm_It} {K : List cm_Fr} (hC : cm_C nc no0 ns nd x_lineClass x_lineLength x_methodGeneric x_parameterCount x_specialiser x_tokenKind x_tokenValue x_tokenCount x_isSealed x_classHasSlot x_classSlot x_superDraft y_has y_initial y_draftHas y_draftInitial y_lists y_listLength y_gone y_single y_special y_shownSteps) (ihW : cm_PW D kk nc no0 ns nd x_lineClass x_lineLength x_methodGeneric x_parameterCount x_specialiser x_tokenKind x_tokenValue x_tokenCount x_isSealed x_classHasSlot x_classSlot x_superDraft y_has y_initial y_draftHas y_draftInitial y_lists y_listLength y_gone y_single y_special y_shownSteps μ) (h : cm_J nc (0) ((m, pl, pc, ar, (c, g, n, z) :: r)) (K) (s) (no) x_lineClass x_lineLength x_methodGeneric x_parameterCount x_specialiser x_tokenKind x_tokenValue x_tokenCount x_objectClass x_objectHasSlot x_objectSlot x_frameMethod x_framePlace x_frameToken x_frameOperators x_frameArgument x_operatorKind x_operatorValue x_operatorLeft x_workedOut y_slots y_methodAt y_reached y_pc y_opsAt y_arguments y_operator y_got y_operands y_many y_broken y_chosen) (hn : no0 ≤ no) (hv : rl_val no v) (hwo : x_workedOut (cm_kv (cm_vx x_tokenKind) ((m, pl, pc, ar, (c, g, n, z) :: r) :: K)) = v) (hmu : cm_fi (cm_A x_parameterCount x_tokenKind x_tokenValue) s ((m, pl, pc, ar, (c, g, n, z) :: r) :: K) 1 ≤ μ + 1) (htt : tt + cm_fi (cm_A x_parameterCount x_tokenKind x_tokenValue) s ((m, pl, pc, ar, (c, g, n, z) :: r) :: K) 1 ≤ 4000) (ek : x_tokenKind c = nI q) (hq : q ≤ 12) (h9 : q ≠ 9) (h10 : q ≠ 10) (hg : g + 1 < (cm_A x_parameterCount x_tokenKind x_tokenValue) c)
    (hY : ∀ post' : Int32 → SY → Prop, (∃ n9 n5, wY_deliver_5 (cm_Q post' n9) n5 v 1 (nI nc) (nI ns) (nI no) (nI nd) (nI (K.length + 1)) (nI (cm_ko cm_al ((m, pl, pc, ar, (c, g, n, z) :: r) :: K))) (nI (cm_kv cm_al ((m, pl, pc, ar, (c, g, n, z) :: r) :: K))) 0 (nI s) y_shownSteps (-9223372036854775808) x_lineClass x_lineLength y_has x_isSealed y_initial x_superDraft y_draftHas y_draftInitial y_lists y_listLength y_gone x_objectClass y_slots x_parameterCount x_methodGeneric y_single y_special x_tokenKind x_tokenCount x_tokenValue y_methodAt y_pc y_chosen y_many y_reached y_opsAt y_broken y_arguments y_operands y_operator y_got) → D post') : ∀ n', cm_fi (cm_A x_parameterCount x_tokenKind x_tokenValue) s ((m, pl, pc, ar, (c, g, n, z) :: r) :: K) 1 < n' + 1 → wX_call_23 (fun r u' => D (fun r' v' => r' = r ∧ i_Rel kk u' v')) (n' + 1) (nI tt) (nI nc) (nI ns) (nI no) (nI nd) (-3) (nI s) (-9223372036854775808) x_enterGeneric x_enterPlace (nI (K.length + 1)) (nI (cm_ko (cm_vx x_tokenKind) ((m, pl, pc, ar, (c, g, n, z) :: r) :: K))) (nI (cm_kv (cm_vx x_tokenKind) ((m, pl, pc, ar, (c, g, n, z) :: r) :: K) + 1)) x_lineClass x_lineLength x_isSealed x_classHasSlot x_classSlot x_superDraft x_objectClass x_objectHasSlot x_objectSlot x_parameterCount x_methodGeneric x_specialiser x_tokenKind x_tokenValue x_tokenCount x_argument x_rank x_orderPlace x_frameMethod x_framePlace x_frameToken x_frameOperators x_frameArgument x_operatorKind x_operatorValue x_operatorLeft x_workedOut := by
  have n9 : ¬ x_tokenKind c = 9 := by rw [ek]; exact fun zz => h9 (bs_inj (b := 9) (by omega) (by omega) zz)
  have n10 : ¬ x_tokenKind c = 10 := by rw [ek]; exact fun zz => h10 (bs_inj (b := 10) (by omega) (by omega) zz)
  obtain ⟨gg, p, t, j, a1, a2, a3, a4, a5, a6, a7, a8, a9, a10, a11, a12, a13, a14, a15, a16, a17, a18⟩ := cm_top hC.2.2.2.2.2.1 h
  obtain ⟨k1, k2, k3, k4⟩ := cm_J_cnt h
  have hd := h.2.2.2.1
  have ho := h.1
  have ho20 := ho.1
  obtain ⟨x1, x2, x3, x4, x5, x6, x7, x8, x9⟩ := cm_item h (cm_vx_t (fun zz => n10 zz.1))
  obtain ⟨y1, y2, y3, y4, y5, y7, y8, y9⟩ := cm_itemY h
  have hcj : c % 16 = j := by omega
  have hc400 : c < 400 := by omega
  rw [hcj] at y4
  have htk := a12 j a10
  rw [← a11] at htk
  have e3 : ((m, pl, pc, ar, (c, g, n, z) :: r) :: K).length = K.length + 1 := rfl
  have e4 : cm_kl (cm_A x_parameterCount x_tokenKind x_tokenValue) ((m, pl, pc, ar, (c, g, n, z) :: r) :: K) = cm_kl (cm_A x_parameterCount x_tokenKind x_tokenValue) K + (cm_lf (cm_A x_parameterCount x_tokenKind x_tokenValue) r + ((cm_A x_parameterCount x_tokenKind x_tokenValue) c - g)) := rfl
  have kn1 : cm_ni (cm_vx x_tokenKind) r ≤ cm_ni cm_al r := cm_ni_le _ _
  have kn2 : cm_nv (cm_vx x_tokenKind) r ≤ cm_nv cm_al r := cm_nv_le _ _
  have kk1 : cm_ko (cm_vx x_tokenKind) K ≤ cm_ko cm_al K := cm_ko_le _ _
  have kk2 : cm_kv (cm_vx x_tokenKind) K ≤ cm_kv cm_al K := cm_kv_le _ _
  unfold cm_fi at hmu htt
  intro n' hn'
  unfold cm_fi at hn'
  rw [x9] at hwo
  have hA3 : (cm_A x_parameterCount x_tokenKind x_tokenValue) c ≤ 3 := pa_ar3 hC.2.2.2.1 htk
  have hJ := cm_mv_more h n9 n10 hg hv (by rw [x9]; exact hwo) (od' := vp_updL y_operands (cm_kv cm_al ((m, pl, pc, ar, (c, g, n, z) :: r) :: K)) v) pk_uLs (fun j hj => pk_uLn (by omega))
  have e1 : cm_kl (cm_A x_parameterCount x_tokenKind x_tokenValue) ((m, pl, pc, ar, (c, g + 1, n + 1, fun q => if q = n then v else z q) :: r) :: K) = cm_kl (cm_A x_parameterCount x_tokenKind x_tokenValue) K + (cm_lf (cm_A x_parameterCount x_tokenKind x_tokenValue) r + ((cm_A x_parameterCount x_tokenKind x_tokenValue) c - (g + 1))) := rfl
  have e2 : ((m, pl, pc, ar, (c, g + 1, n + 1, fun q => if q = n then v else z q) :: r) :: K).length = K.length + 1 := rfl
  have hv1 : (cm_vx x_tokenKind) (c, g + 1, n + 1, fun q => if q = n then v else z q) = true := cm_vx_t (fun zz => n10 zz.1)
  obtain ⟨_, _, _, _, _, _, _, w8, w9⟩ := cm_item hJ hv1
  obtain ⟨_, _, _, _, _, _, w10, w11⟩ := cm_itemY hJ
  rw [x8, x9]
  refine mx_cl_T (by omega) (fun P hP => mx_tk_more hd (by omega) (by omega) x1 (q := q) (lf := (cm_A x_parameterCount x_tokenKind x_tokenValue) c - (g + 1)) hq h9 h10 (by omega) (by omega) (by rw [x4, ek]) (by rw [x6]; exact congrArg nI (by omega)) (hP _ _ _ _ _ _ _ _ _ _ _ _ _ _ _ _ _ _ _ _ _ _ _ _ _ _ _ _ _ _ _ _ _ _ _ _ _ _ _ ?_))
  have hr := ihW no s (tt + 1) (m, pl, pc, ar, (c, g + 1, n + 1, fun q => if q = n then v else z q) :: r) K _ _ _ _ _ _ _ _ _ _ _ _ x_argument x_rank x_orderPlace x_enterGeneric x_enterPlace _ _ _ _ _ _ _ _ _ _ _ _ hJ hn (by unfold cm_fi; omega) (by unfold cm_fi; omega) (fun post' he => by
    obtain ⟨n1, hcl⟩ := he
    rw [w10, w11, y9] at hcl
    refine hY post' ⟨n1, 2, ?_⟩
    rw [y8]
    refine my_dl_item (n := 0) hd (by omega) (by omega) (by omega) (by omega) y1 y2 y4 y5 (fun P h0 h1 => ?_)
    rw [← a11]
    refine my_cp_more hc400 (by omega) (g1 := g + 1) (by omega) pk_us hC.2.2.2.1 htk ek hq h9 hg (h0 _ ?_)
    rw [y9]
    exact hcl) n' (by unfold cm_fi; omega)
  rw [w8, w9] at hr
  exact hr
theorem cm_T_seq0 {μ no s tt m pl pc c : Nat} {z : Nat → Int64} {v : Int64} {ar : Nat → Int64} {r : List cm_It} {K : List cm_Fr} (hC : cm_C nc no0 ns nd x_lineClass x_lineLength x_methodGeneric x_parameterCount x_specialiser x_tokenKind x_tokenValue x_tokenCount x_isSealed x_classHasSlot x_classSlot x_superDraft y_has y_initial y_draftHas y_draftInitial y_lists y_listLength y_gone y_single y_special y_shownSteps) (ihW : cm_PW D kk nc no0 ns nd x_lineClass x_lineLength x_methodGeneric x_parameterCount x_specialiser x_tokenKind x_tokenValue x_tokenCount x_isSealed x_classHasSlot x_classSlot x_superDraft y_has y_initial y_draftHas y_draftInitial y_lists y_listLength y_gone y_single y_special y_shownSteps μ) (h : cm_J nc (0) ((m, pl, pc, ar, (c, 0, 0, z) :: r)) (K) (s) (no) x_lineClass x_lineLength x_methodGeneric x_parameterCount x_specialiser x_tokenKind x_tokenValue x_tokenCount x_objectClass x_objectHasSlot x_objectSlot x_frameMethod x_framePlace x_frameToken x_frameOperators x_frameArgument x_operatorKind x_operatorValue x_operatorLeft x_workedOut y_slots y_methodAt y_reached y_pc y_opsAt y_arguments y_operator y_got y_operands y_many y_broken y_chosen) (hn : no0 ≤ no) (hv : rl_val no v) (hwo : x_workedOut (cm_kv (cm_vx x_tokenKind) ((m, pl, pc, ar, (c, 0, 0, z) :: r) :: K)) = v) (hmu : cm_fi (cm_A x_parameterCount x_tokenKind x_tokenValue) s ((m, pl, pc, ar, (c, 0, 0, z) :: r) :: K) 1 ≤ μ + 1) (htt : tt + cm_fi (cm_A x_parameterCount x_tokenKind x_tokenValue) s ((m, pl, pc, ar, (c, 0, 0, z) :: r) :: K) 1 ≤ 4000) (ek : x_tokenKind c = nI 10)
    (hY : ∀ post' : Int32 → SY → Prop, (∃ n9 n5, wY_deliver_5 (cm_Q post' n9) n5 v 1 (nI nc) (nI ns) (nI no) (nI nd) (nI (K.length + 1)) (nI (cm_ko cm_al ((m, pl, pc, ar, (c, 0, 0, z) :: r) :: K))) (nI (cm_kv cm_al ((m, pl, pc, ar, (c, 0, 0, z) :: r) :: K))) 0 (nI s) y_shownSteps (-9223372036854775808) x_lineClass x_lineLength y_has x_isSealed y_initial x_superDraft y_draftHas y_draftInitial y_lists y_listLength y_gone x_objectClass y_slots x_parameterCount x_methodGeneric y_single y_special x_tokenKind x_tokenCount x_tokenValue y_methodAt y_pc y_chosen y_many y_reached y_opsAt y_broken y_arguments y_operands y_operator y_got) → D post') : ∀ n', cm_fi (cm_A x_parameterCount x_tokenKind x_tokenValue) s ((m, pl, pc, ar, (c, 0, 0, z) :: r) :: K) 1 < n' + 1 → wX_call_23 (fun r u' => D (fun r' v' => r' = r ∧ i_Rel kk u' v')) (n' + 1) (nI tt) (nI nc) (nI ns) (nI no) (nI nd) (-3) (nI s) (-9223372036854775808) x_enterGeneric x_enterPlace (nI (K.length + 1)) (nI (cm_ko (cm_vx x_tokenKind) ((m, pl, pc, ar, (c, 0, 0, z) :: r) :: K))) (nI (cm_kv (cm_vx x_tokenKind) ((m, pl, pc, ar, (c, 0, 0, z) :: r) :: K) + 1)) x_lineClass x_lineLength x_isSealed x_classHasSlot x_classSlot x_superDraft x_objectClass x_objectHasSlot x_objectSlot x_parameterCount x_methodGeneric x_specialiser x_tokenKind x_tokenValue x_tokenCount x_argument x_rank x_orderPlace x_frameMethod x_framePlace x_frameToken x_frameOperators x_frameArgument x_operatorKind x_operatorValue x_operatorLeft x_workedOut := by
  obtain ⟨gg, p, t, j, a1, a2, a3, a4, a5, a6, a7, a8, a9, a10, a11, a12, a13, a14, a15, a16, a17, a18⟩ := cm_top hC.2.2.2.2.2.1 h
  obtain ⟨k1, k2, k3, k4⟩ := cm_J_cnt h
  have hd := h.2.2.2.1
  have ho := h.1
  have ho20 := ho.1
  obtain ⟨x1, x2, x3, x4, x5, x6, x7, x8, x9⟩ := cm_item h (cm_vx_t (fun zz => absurd zz.2 (show ¬ (0 : Nat) = 1 by decide)))
  obtain ⟨y1, y2, y3, y4, y5, y7, y8, y9⟩ := cm_itemY h
  have hcj : c % 16 = j := by omega
  have hc400 : c < 400 := by omega
  rw [hcj] at y4
  have htk := a12 j a10
  rw [← a11] at htk
  have e3 : ((m, pl, pc, ar, (c, 0, 0, z) :: r) :: K).length = K.length + 1 := rfl
  have e4 : cm_kl (cm_A x_parameterCount x_tokenKind x_tokenValue) ((m, pl, pc, ar, (c, 0, 0, z) :: r) :: K) = cm_kl (cm_A x_parameterCount x_tokenKind x_tokenValue) K + (cm_lf (cm_A x_parameterCount x_tokenKind x_tokenValue) r + ((cm_A x_parameterCount x_tokenKind x_tokenValue) c - 0)) := rfl
  have kn1 : cm_ni (cm_vx x_tokenKind) r ≤ cm_ni cm_al r := cm_ni_le _ _
  have kn2 : cm_nv (cm_vx x_tokenKind) r ≤ cm_nv cm_al r := cm_nv_le _ _
  have kk1 : cm_ko (cm_vx x_tokenKind) K ≤ cm_ko cm_al K := cm_ko_le _ _
  have kk2 : cm_kv (cm_vx x_tokenKind) K ≤ cm_kv cm_al K := cm_kv_le _ _
  unfold cm_fi at hmu htt
  intro n' hn'
  unfold cm_fi at hn'
  rw [x9] at hwo
  have hA : (cm_A x_parameterCount x_tokenKind x_tokenValue) c = 2 := by rw [cm_kind ek]; rfl
  have hJ := cm_mv_seq h ek hA hv (od' := vp_updL y_operands (cm_kv cm_al ((m, pl, pc, ar, (c, 0, 0, z) :: r) :: K)) v) (oL' := upd x_operatorLeft (cm_ko (cm_vx x_tokenKind) K + cm_ni (cm_vx x_tokenKind) r) (nI 1)) pk_uLs (fun j hj => pk_uLn (by omega)) (fun j hj => pk_un (by omega))
  have hv1 : ¬ (cm_vx x_tokenKind) (c, 1, 1, fun _ => v) = true := cm_vx_f ⟨ek, rfl⟩
  have w8 : cm_ko (cm_vx x_tokenKind) ((m, pl, pc, ar, (c, 1, 1, fun _ => v) :: r) :: K) = (cm_ko (cm_vx x_tokenKind) K + cm_ni (cm_vx x_tokenKind) r) := by
    show cm_ko (cm_vx x_tokenKind) K + cm_ni (cm_vx x_tokenKind) ((c, 1, 1, fun _ => v) :: r) = _
    rw [cm_ni_f hv1]
  have w9 : cm_kv (cm_vx x_tokenKind) ((m, pl, pc, ar, (c, 1, 1, fun _ => v) :: r) :: K) = cm_kv (cm_vx x_tokenKind) K + cm_nv (cm_vx x_tokenKind) r := by
    show cm_kv (cm_vx x_tokenKind) K + cm_nv (cm_vx x_tokenKind) ((c, 1, 1, fun _ => v) :: r) = _
    rw [cm_nv_f hv1]
  obtain ⟨_, _, _, _, _, _, w10, w11⟩ := cm_itemY hJ
  have e1 : cm_kl (cm_A x_parameterCount x_tokenKind x_tokenValue) ((m, pl, pc, ar, (c, 1, 1, fun _ => v) :: r) :: K) = cm_kl (cm_A x_parameterCount x_tokenKind x_tokenValue) K + (cm_lf (cm_A x_parameterCount x_tokenKind x_tokenValue) r + ((cm_A x_parameterCount x_tokenKind x_tokenValue) c - 1)) := rfl
  have e2 : ((m, pl, pc, ar, (c, 1, 1, fun _ => v) :: r) :: K).length = K.length + 1 := rfl
  rw [x8, x9]
  refine mx_cl_T (by omega) (fun P hP => mx_tk_seq hd (by omega) (by omega) x1 (lf := 1) (vc := cm_kv (cm_vx x_tokenKind) K + cm_nv (cm_vx x_tokenKind) r + 0) (by rw [x4, ek]) (by rw [x6, hA]) (hP _ _ _ _ _ _ _ _ _ _ _ _ _ _ _ _ _ _ _ _ _ _ _ _ _ _ _ _ _ _ _ _ _ _ _ _ _ _ _ ?_))
  have hr := ihW no s (tt + 1) (m, pl, pc, ar, (c, 1, 1, fun _ => v) :: r) K _ _ _ _ _ _ _ _ _ _ _ _ x_argument x_rank x_orderPlace x_enterGeneric x_enterPlace _ _ _ _ _ _ _ _ _ _ _ _ hJ hn (by unfold cm_fi; omega) (by unfold cm_fi; omega) (fun post' he => by
    obtain ⟨n1, hcl⟩ := he
    rw [w10, w11] at hcl
    refine hY post' ⟨n1, 2, ?_⟩
    rw [y8]
    refine my_dl_item (n := 0) hd (by omega) (by omega) (by omega) (by omega) y1 y2 y4 y5 (fun P h0 h1 => ?_)
    rw [← a11]
    refine my_cp_more hc400 (by omega) (g1 := 1) (by omega) pk_us hC.2.2.2.1 htk ek (by omega) (by omega) (by show 1 < (cm_A x_parameterCount x_tokenKind x_tokenValue) c; omega) (h0 _ ?_)
    rw [y9]
    exact hcl) n' (by unfold cm_fi; omega)
  rw [w8, w9] at hr
  exact hr
end
end
section
/-! the simulation: values taken, second half -/
theorem ob_nn {no : Nat} {v : Int64} (hno : no ≤ 20) (h : rl_val no v) : ¬ v = -9223372036854775808 := by
  rintro rfl
  rcases h with h | ⟨k, hk, e⟩
  · have h1 := congrArg Int64.toInt h
    rw [Int32.toInt_toInt64] at h1
    have h2 := Int32.le_toInt (-9223372036854775808 : Int64).toInt32
    have h3 : (-9223372036854775808 : Int64).toInt = -9223372036854775808 := by decide
    omega
  · have h1 := congrArg Int64.toInt e
    rw [pk_lT (by omega)] at h1
    have h3 : (-9223372036854775808 : Int64).toInt = -9223372036854775808 := by decide
    omega
/-- the slot, as X and as Y know it -/
theorem ob_sl {nc no k n : Nat} {OC OH : Nat → Int32} {OS SL : Nat → Int64} (h : rl_obj nc no OC OH OS SL) (hk : k < no) (hn : n < 4) : (OH (4 * k + n) = 0 ∧ SL (4 * k + n) = -9223372036854775808) ∨ (¬ OH (4 * k + n) = 0 ∧ ¬ SL (4 * k + n) = -9223372036854775808 ∧ SL (4 * k + n) = OS (4 * k + n) ∧ rl_val no (OS (4 * k + n))) := by
  rcases h.2.2 (4 * k + n) (by omega) with h1 | ⟨h1, h2, h3⟩
  · exact Or.inl h1
  · refine Or.inr ⟨by rw [h1]; decide, ?_, h2, h3⟩
    rw [h2]
    exact ob_nn h.1 h3
theorem ob_set {nc no k n : Nat} {OC OH : Nat → Int32} {OS SL : Nat → Int64} {v : Int64} (h : rl_obj nc no OC OH OS SL) (hk : k < no) (hn : n < 4) (hh : ¬ OH (4 * k + n) = 0) (hv : rl_val no v) : rl_obj nc no OC OH (vp_updL OS (4 * k + n) v) (vp_updL SL (4 * k + n) v) := by
  refine ⟨h.1, h.2.1, fun j hj => ?_⟩
  by_cases e : j = 4 * k + n
  · subst e
    rw [pk_uLs, pk_uLs]
    rcases h.2.2 (4 * k + n) hj with h1 | ⟨h1, _, _⟩
    · exact absurd h1.1 hh
    · exact Or.inr ⟨h1, rfl, hv⟩
  · rw [pk_uLn e, pk_uLn e]
    exact h.2.2 j hj
section
variable {x_classCount : Int32} {x_superCount : Int32} {x_objectCount : Int32} {x_draftSpecialCount : Int32} {x_state : Int32} {x_stepCount : Int32} {x_latestValue : Int64} {x_enterGeneric : Int32} {x_enterPlace : Int32} {x_frameCount : Int32} {x_operatorCount : Int32} {x_valueCount : Int32} {x_lineClass : Nat → Int32} {x_lineLength : Nat → Int32} {x_isSealed : Nat → Int32} {x_classHasSlot : Nat → Int32} {x_classSlot : Nat → Int32} {x_superDraft : Nat → Int32} {x_objectClass : Nat → Int32} {x_objectHasSlot : Nat → Int32} {x_objectSlot : Nat → Int64} {x_parameterCount : Nat → Int32} {x_methodGeneric : Nat → Int32} {x_specialiser : Nat → Int64} {x_tokenKind : Nat → Int32} {x_tokenValue : Nat → Int32} {x_tokenCount : Nat → Int32} {x_argument : Nat → Int64} {x_rank : Nat → Int32} {x_orderPlace : Nat → Int32} {x_frameMethod : Nat → Int32} {x_framePlace : Nat → Int32} {x_frameToken : Nat → Int32} {x_frameOperators : Nat → Int32} {x_frameArgument : Nat → Int64} {x_operatorKind : Nat → Int32} {x_operatorValue : Nat → Int32} {x_operatorLeft : Nat → Int32} {x_workedOut : Nat → Int64} {y_classes : Int32} {y_supers : Int32} {y_objects : Int32} {y_specials : Int32} {y_depth : Int32} {y_ops : Int32} {y_held : Int32} {y_fault : Int32} {y_steps : Int32} {y_shownSteps : Int32} {y_result : Int64} {y_line : Nat → Int32} {y_lineLength : Nat → Int32} {y_has : Nat → Int32} {y_sealed : Nat → Int32} {y_initial : Nat → Int32} {y_drafted : Nat → Int32} {y_draftHas : Nat → Int32} {y_draftInitial : Nat → Int32} {y_lists : Nat → Int32} {y_listLength : Nat → Int32} {y_gone : Nat → Int32} {y_classOfObject : Nat → Int32} {y_slots : Nat → Int64} {y_parameters : Nat → Int32} {y_generic : Nat → Int32} {y_single : Nat → Int32} {y_special : Nat → Int64} {y_kind : Nat → Int32} {y_tokens : Nat → Int32} {y_with : Nat → Int32} {y_methodAt : Nat → Int32} {y_pc : Nat → Int32} {y_chosen : Nat → Int32} {y_many : Nat → Int32} {y_reached : Nat → Int32} {y_opsAt : Nat → Int32} {y_broken : Nat → Int32} {y_arguments : Nat → Int64} {y_operands : Nat → Int64} {y_operator : Nat → Int32} {y_got : Nat → Int32} {D : (Int32 → SY → Prop) → Prop} {kk nc no0 ns nd : Nat}
theorem cm_T_seq1 {μ no s tt m pl pc c : Nat} {z : Nat → Int64} {v : Int64} {ar : Nat → Int64} {r : List cm_It} {K : List cm_Fr} (hC : cm_C nc no0 ns nd x_lineClass x_lineLength x_methodGeneric x_parameterCount x_specialiser x_tokenKind x_tokenValue x_tokenCount x_isSealed x_classHasSlot x_classSlot x_superDraft y_has y_initial y_draftHas y_draftInitial y_lists y_listLength y_gone y_single y_special y_shownSteps) (ihT : cm_PT D kk nc no0 ns nd x_lineClass x_lineLength x_methodGeneric x_parameterCount x_specialiser x_tokenKind x_tokenValue x_tokenCount x_isSealed x_classHasSlot x_classSlot x_superDraft y_has y_initial y_draftHas y_draftInitial y_lists y_listLength y_gone y_single y_special y_shownSteps μ) (h : cm_J nc (0) ((m, pl, pc, ar, (c, 1, 1, z) :: r)) (K) (s) (no) x_lineClass x_lineLength x_methodGeneric x_parameterCount x_specialiser x_tokenKind x_tokenValue x_tokenCount x_objectClass x_objectHasSlot x_objectSlot x_frameMethod x_framePlace x_frameToken x_frameOperators x_frameArgument x_operatorKind x_operatorValue x_operatorLeft x_workedOut y_slots y_methodAt y_reached y_pc y_opsAt y_arguments y_operator y_got y_operands y_many y_broken y_chosen) (hn : no0 ≤ no) (hv : rl_val no v) (hwo : x_workedOut (cm_kv (cm_vx x_tokenKind) ((m, pl, pc, ar, (c, 1, 1, z) :: r) :: K)) = v) (hmu : cm_fi (cm_A x_parameterCount x_tokenKind x_tokenValue) s ((m, pl, pc, ar, (c, 1, 1, z) :: r) :: K) 1 ≤ μ + 1) (htt : tt + cm_fi (cm_A x_parameterCount x_tokenKind x_tokenValue) s ((m, pl, pc, ar, (c, 1, 1, z) :: r) :: K) 1 ≤ 4000) (ek : x_tokenKind c = nI 10)
    (hY : ∀ post' : Int32 → SY → Prop, (∃ n9 n5, wY_deliver_5 (cm_Q post' n9) n5 v 1 (nI nc) (nI ns) (nI no) (nI nd) (nI (K.length + 1)) (nI (cm_ko cm_al ((m, pl, pc, ar, (c, 1, 1, z) :: r) :: K))) (nI (cm_kv cm_al ((m, pl, pc, ar, (c, 1, 1, z) :: r) :: K))) 0 (nI s) y_shownSteps (-9223372036854775808) x_lineClass x_lineLength y_has x_isSealed y_initial x_superDraft y_draftHas y_draftInitial y_lists y_listLength y_gone x_objectClass y_slots x_parameterCount x_methodGeneric y_single y_special x_tokenKind x_tokenCount x_tokenValue y_methodAt y_pc y_chosen y_many y_reached y_opsAt y_broken y_arguments y_operands y_operator y_got) → D post') : ∀ n', cm_fi (cm_A x_parameterCount x_tokenKind x_tokenValue) s ((m, pl, pc, ar, (c, 1, 1, z) :: r) :: K) 1 < n' → wX_call_23 (fun r u' => D (fun r' v' => r' = r ∧ i_Rel kk u' v')) n' (nI tt) (nI nc) (nI ns) (nI no) (nI nd) (-3) (nI s) (-9223372036854775808) x_enterGeneric x_enterPlace (nI (K.length + 1)) (nI (cm_ko (cm_vx x_tokenKind) ((m, pl, pc, ar, (c, 1, 1, z) :: r) :: K))) (nI (cm_kv (cm_vx x_tokenKind) ((m, pl, pc, ar, (c, 1, 1, z) :: r) :: K) + 1)) x_lineClass x_lineLength x_isSealed x_classHasSlot x_classSlot x_superDraft x_objectClass x_objectHasSlot x_objectSlot x_parameterCount x_methodGeneric x_specialiser x_tokenKind x_tokenValue x_tokenCount x_argument x_rank x_orderPlace x_frameMethod x_framePlace x_frameToken x_frameOperators x_frameArgument x_operatorKind x_operatorValue x_operatorLeft x_workedOut := by
  obtain ⟨gg, p, t, j, a1, a2, a3, a4, a5, a6, a7, a8, a9, a10, a11, a12, a13, a14, a15, a16, a17, a18⟩ := cm_top hC.2.2.2.2.2.1 h
  obtain ⟨k1, k2, k3, k4⟩ := cm_J_cnt h
  have hd := h.2.2.2.1
  have ho := h.1
  have ho20 := ho.1
  obtain ⟨y1, y2, y3, y4, y5, y7, y8, y9⟩ := cm_itemY h
  have hcj : c % 16 = j := by omega
  have hc400 : c < 400 := by omega
  rw [hcj] at y4
  have htk := a12 j a10
  rw [← a11] at htk
  have e3 : ((m, pl, pc, ar, (c, 1, 1, z) :: r) :: K).length = K.length + 1 := rfl
  have e4 : cm_kl (cm_A x_parameterCount x_tokenKind x_tokenValue) ((m, pl, pc, ar, (c, 1, 1, z) :: r) :: K) = cm_kl (cm_A x_parameterCount x_tokenKind x_tokenValue) K + (cm_lf (cm_A x_parameterCount x_tokenKind x_tokenValue) r + ((cm_A x_parameterCount x_tokenKind x_tokenValue) c - 1)) := rfl
  have kn1 : cm_ni (cm_vx x_tokenKind) r ≤ cm_ni cm_al r := cm_ni_le _ _
  have kn2 : cm_nv (cm_vx x_tokenKind) r ≤ cm_nv cm_al r := cm_nv_le _ _
  have kk1 : cm_ko (cm_vx x_tokenKind) K ≤ cm_ko cm_al K := cm_ko_le _ _
  have kk2 : cm_kv (cm_vx x_tokenKind) K ≤ cm_kv cm_al K := cm_kv_le _ _
  have eTX : x_frameToken K.length = nI pc := h.2.2.2.2.2.2.1.1.2.2.1
  unfold cm_fi at hmu htt
  intro n' hn'
  unfold cm_fi at hn'
  have hA : (cm_A x_parameterCount x_tokenKind x_tokenValue) c = 2 := by rw [cm_kind ek]; rfl
  have hv1 : ¬ (cm_vx x_tokenKind) (c, 1, 1, z) = true := cm_vx_f ⟨ek, rfl⟩
  have w8 : cm_ko (cm_vx x_tokenKind) ((m, pl, pc, ar, (c, 1, 1, z) :: r) :: K) = (cm_ko (cm_vx x_tokenKind) K + cm_ni (cm_vx x_tokenKind) r) := by
    show cm_ko (cm_vx x_tokenKind) K + cm_ni (cm_vx x_tokenKind) ((c, 1, 1, z) :: r) = _
    rw [cm_ni_f hv1]
  have w9 : cm_kv (cm_vx x_tokenKind) ((m, pl, pc, ar, (c, 1, 1, z) :: r) :: K) = (cm_kv (cm_vx x_tokenKind) K + cm_nv (cm_vx x_tokenKind) r) := by
    show cm_kv (cm_vx x_tokenKind) K + cm_nv (cm_vx x_tokenKind) ((c, 1, 1, z) :: r) = _
    rw [cm_nv_f hv1]
  rw [hA] at a17
  have p1 : cm_kl (cm_A x_parameterCount x_tokenKind x_tokenValue) ((m, pl, pc, ar, r) :: K) = cm_kl (cm_A x_parameterCount x_tokenKind x_tokenValue) K + cm_lf (cm_A x_parameterCount x_tokenKind x_tokenValue) r := rfl
  have p2 : ((m, pl, pc, ar, r) :: K).length = K.length + 1 := rfl
  have hJ := cm_mv_pop (x := 0) (pc' := pc) (fT' := x_frameToken) (pC' := y_pc) (oL' := x_operatorLeft) (wo' := x_workedOut) (go' := upd y_got (cm_ko cm_al K + cm_ni cm_al r) (nI 2)) (od' := vp_updL (vp_updL y_operands ((cm_kv cm_al K + cm_nv cm_al r) + 1) v) (cm_kv cm_al K + cm_nv cm_al r) v) h (by omega) a8 a5 a9 a17 eTX y3 (fun _ _ => rfl) (fun _ _ => rfl) (fun j hj => by rw [pk_uLn (by omega), pk_uLn (by omega)]) (fun _ _ => rfl) (fun _ _ => rfl) (fun j hj => pk_un (by omega))
  rw [w8, w9]
  rw [w9] at hwo
  refine ihT no s tt v (m, pl, pc, ar, r) K _ _ _ _ _ _ _ _ _ _ _ _ x_argument x_rank x_orderPlace x_enterGeneric x_enterPlace _ _ _ _ _ _ _ _ _ _ _ _ hJ hn hv hwo (by unfold cm_fi; omega) (by unfold cm_fi; omega) (fun post' he => ?_) n' (by unfold cm_fi; omega)
  obtain ⟨n1, n5, hdl⟩ := he
  cases n5 with
  | zero => exact hdl.elim
  | succ n6 =>
    refine hY post' ⟨n1, n6 + 2, ?_⟩
    rw [y8]
    refine my_dl_item (n := n6) hd (by omega) (by omega) (by omega) (by omega) y1 y2 y4 y5 (fun P h0 h1 => ?_)
    rw [← a11, y9]
    refine my_cp_two (hh := (cm_kv cm_al K + cm_nv cm_al r)) hc400 (by omega) (g1 := 2) (by omega) pk_us hC.2.2.2.1 htk hA (q := 10) (by omega) (by omega) ek (fun Q hQ => ?_)
    rw [pk_uLs]
    refine my_two (no := no) (n := 0) ho20 (by omega) (by omega) (fun zz => by omega) ?_ (fun _ => hQ _ (h1 _ _ _ _ _ _ 0 _ _ _ _ _ _ _ _ _ _ _ _ _ _ _ _ _ _ _ _ _ _ _ _ _ _ _ _ _ _ _ _ _ _ _ (cm_kv cm_al K + cm_nv cm_al r) (by omega) ?_)) (fun zz => by omega) (fun zz => by omega) (fun zz zz2 => by omega) (fun zz zz2 => by omega) rfl
    · rw [pk_uLn (by omega)]
      have := y7 0 (by omega)
      rw [Nat.add_zero] at this
      rw [this]
      exact a16 0 (by omega)
    · rw [pk_uLs]
      exact hdl
theorem cm_T_if0 {μ no s tt m pl pc c : Nat} {z : Nat → Int64} {v : Int64} {ar : Nat → Int64} {r : List cm_It} {K : List cm_Fr} (hC : cm_C nc no0 ns nd x_lineClass x_lineLength x_methodGeneric x_parameterCount x_specialiser x_tokenKind x_tokenValue x_tokenCount x_isSealed x_classHasSlot x_classSlot x_superDraft y_has y_initial y_draftHas y_draftInitial y_lists y_listLength y_gone y_single y_special y_shownSteps) (ihW : cm_PW D kk nc no0 ns nd x_lineClass x_lineLength x_methodGeneric x_parameterCount x_specialiser x_tokenKind x_tokenValue x_tokenCount x_isSealed x_classHasSlot x_classSlot x_superDraft y_has y_initial y_draftHas y_draftInitial y_lists y_listLength y_gone y_single y_special y_shownSteps μ) (h : cm_J nc (0) ((m, pl, pc, ar, (c, 0, 0, z) :: r)) (K) (s) (no) x_lineClass x_lineLength x_methodGeneric x_parameterCount x_specialiser x_tokenKind x_tokenValue x_tokenCount x_objectClass x_objectHasSlot x_objectSlot x_frameMethod x_framePlace x_frameToken x_frameOperators x_frameArgument x_operatorKind x_operatorValue x_operatorLeft x_workedOut y_slots y_methodAt y_reached y_pc y_opsAt y_arguments y_operator y_got y_operands y_many y_broken y_chosen) (hn : no0 ≤ no) (hv : rl_val no v) (hwo : x_workedOut (cm_kv (cm_vx x_tokenKind) ((m, pl, pc, ar, (c, 0, 0, z) :: r) :: K)) = v) (hmu : cm_fi (cm_A x_parameterCount x_tokenKind x_tokenValue) s ((m, pl, pc, ar, (c, 0, 0, z) :: r) :: K) 1 ≤ μ + 1) (htt : tt + cm_fi (cm_A x_parameterCount x_tokenKind x_tokenValue) s ((m, pl, pc, ar, (c, 0, 0, z) :: r) :: K) 1 ≤ 4000) (ek : x_tokenKind c = nI 9)
    (hY : ∀ post' : Int32 → SY → Prop, (∃ n9 n5, wY_deliver_5 (cm_Q post' n9) n5 v 1 (nI nc) (nI ns) (nI no) (nI nd) (nI (K.length + 1)) (nI (cm_ko cm_al ((m, pl, pc, ar, (c, 0, 0, z) :: r) :: K))) (nI (cm_kv cm_al ((m, pl, pc, ar, (c, 0, 0, z) :: r) :: K))) 0 (nI s) y_shownSteps (-9223372036854775808) x_lineClass x_lineLength y_has x_isSealed y_initial x_superDraft y_draftHas y_draftInitial y_lists y_listLength y_gone x_objectClass y_slots x_parameterCount x_methodGeneric y_single y_special x_tokenKind x_tokenCount x_tokenValue y_methodAt y_pc y_chosen y_many y_reached y_opsAt y_broken y_arguments y_operands y_operator y_got) → D post') : ∀ n', cm_fi (cm_A x_parameterCount x_tokenKind x_tokenValue) s ((m, pl, pc, ar, (c, 0, 0, z) :: r) :: K) 1 < n' + 1 → wX_call_23 (fun r u' => D (fun r' v' => r' = r ∧ i_Rel kk u' v')) (n' + 1) (nI tt) (nI nc) (nI ns) (nI no) (nI nd) (-3) (nI s) (-9223372036854775808) x_enterGeneric x_enterPlace (nI (K.length + 1)) (nI (cm_ko (cm_vx x_tokenKind) ((m, pl, pc, ar, (c, 0, 0, z) :: r) :: K))) (nI (cm_kv (cm_vx x_tokenKind) ((m, pl, pc, ar, (c, 0, 0, z) :: r) :: K) + 1)) x_lineClass x_lineLength x_isSealed x_classHasSlot x_classSlot x_superDraft x_objectClass x_objectHasSlot x_objectSlot x_parameterCount x_methodGeneric x_specialiser x_tokenKind x_tokenValue x_tokenCount x_argument x_rank x_orderPlace x_frameMethod x_framePlace x_frameToken x_frameOperators x_frameArgument x_operatorKind x_operatorValue x_operatorLeft x_workedOut := by
  obtain ⟨gg, p, t, j, a1, a2, a3, a4, a5, a6, a7, a8, a9, a10, a11, a12, a13, a14, a15, a16, a17, a18⟩ := cm_top hC.2.2.2.2.2.1 h
  obtain ⟨k1, k2, k3, k4⟩ := cm_J_cnt h
  have hd := h.2.2.2.1
  have ho := h.1
  have ho20 := ho.1
  obtain ⟨x1, x2, x3, x4, x5, x6, x7, x8, x9⟩ := cm_item h (cm_vx_t (fun zz => by have z1 : x_tokenKind c = 10 := zz.1; rw [ek] at z1; exact absurd z1 (by decide)))
  obtain ⟨y1, y2, y3, y4, y5, y7, y8, y9⟩ := cm_itemY h
  have hcj : c % 16 = j := by omega
  have hc400 : c < 400 := by omega
  rw [hcj] at y4
  have htk := a12 j a10
  rw [← a11] at htk
  have e3 : ((m, pl, pc, ar, (c, 0, 0, z) :: r) :: K).length = K.length + 1 := rfl
  have e4 : cm_kl (cm_A x_parameterCount x_tokenKind x_tokenValue) ((m, pl, pc, ar, (c, 0, 0, z) :: r) :: K) = cm_kl (cm_A x_parameterCount x_tokenKind x_tokenValue) K + (cm_lf (cm_A x_parameterCount x_tokenKind x_tokenValue) r + ((cm_A x_parameterCount x_tokenKind x_tokenValue) c - 0)) := rfl
  have kn1 : cm_ni (cm_vx x_tokenKind) r ≤ cm_ni cm_al r := cm_ni_le _ _
  have kn2 : cm_nv (cm_vx x_tokenKind) r ≤ cm_nv cm_al r := cm_nv_le _ _
  have kk1 : cm_ko (cm_vx x_tokenKind) K ≤ cm_ko cm_al K := cm_ko_le _ _
  have kk2 : cm_kv (cm_vx x_tokenKind) K ≤ cm_kv cm_al K := cm_kv_le _ _
  have eTX : x_frameToken K.length = nI pc := h.2.2.2.2.2.2.1.1.2.2.1
  unfold cm_fi at hmu htt
  intro n' hn'
  unfold cm_fi at hn'
  have hA : (cm_A x_parameterCount x_tokenKind x_tokenValue) c = 3 := by rw [cm_kind ek]; rfl
  rw [x9] at hwo
  rw [hA, show cm_nd (cm_A x_parameterCount x_tokenKind x_tokenValue) r + (3 - 0 - 1) + 0 = 1 + (cm_nd (cm_A x_parameterCount x_tokenKind x_tokenValue) r + 1) by omega] at a17
  obtain ⟨e, he1, he2, he3⟩ := pa_split (t - pc) pc 1 (cm_nd (cm_A x_parameterCount x_tokenKind x_tokenValue) r + 1) a17
  rw [show t - pc - e = t - (pc + e) by omega] at he3
  have w1 : cm_kl (cm_A x_parameterCount x_tokenKind x_tokenValue) ((m, pl, pc, ar, (c, 1, 0, z) :: r) :: K) = cm_kl (cm_A x_parameterCount x_tokenKind x_tokenValue) K + (cm_lf (cm_A x_parameterCount x_tokenKind x_tokenValue) r + ((cm_A x_parameterCount x_tokenKind x_tokenValue) c - 1)) := rfl
  have w2 : ((m, pl, pc, ar, (c, 1, 0, z) :: r) :: K).length = K.length + 1 := rfl
  have p1 : cm_kl (cm_A x_parameterCount x_tokenKind x_tokenValue) ((m, pl, pc + e, ar, r) :: K) = cm_kl (cm_A x_parameterCount x_tokenKind x_tokenValue) K + cm_lf (cm_A x_parameterCount x_tokenKind x_tokenValue) r := rfl
  have p2 : ((m, pl, pc + e, ar, r) :: K).length = K.length + 1 := rfl
  have hJ0 := cm_mv_pop (x := 1) (pc' := pc + e) (fT' := upd x_frameToken K.length (nI (pc + e))) (pC' := upd y_pc K.length (nI (pc + e))) (oL' := upd x_operatorLeft (cm_ko (cm_vx x_tokenKind) K + cm_ni (cm_vx x_tokenKind) r) (nI 2)) (wo' := x_workedOut) (go' := upd y_got (cm_ko cm_al K + cm_ni cm_al r) (nI 1)) (od' := vp_updL y_operands (cm_kv cm_al ((m, pl, pc, ar, (c, 0, 0, z) :: r) :: K)) v) h (by omega) a8 a5 (by omega) he3 pk_us pk_us (fun j hj => pk_un (by omega)) (fun j hj => pk_un (by omega)) (fun j hj => pk_uLn (by omega)) (fun _ _ => rfl) (fun j hj => pk_un (by omega)) (fun j hj => pk_un (by omega))
  have hJ1 := cm_mv_if h ek hA (od' := vp_updL y_operands (cm_kv cm_al ((m, pl, pc, ar, (c, 0, 0, z) :: r) :: K)) v) (fun j hj => pk_uLn (by omega))
  have hv1 : (cm_vx x_tokenKind) (c, 1, 0, z) = true := (cm_vx_t (fun zz => by have z1 : x_tokenKind c = 10 := zz.1; rw [ek] at z1; exact absurd z1 (by decide)))
  obtain ⟨_, _, _, _, _, _, _, w8, w9⟩ := cm_item hJ1 hv1
  obtain ⟨_, _, _, _, _, _, w10, w11⟩ := cm_itemY hJ1
  have hYc : ∀ post' n1, (¬ v = 0 → cm_Q post' n1 (nI nc, nI ns, nI no, nI nd, nI (K.length + 1), nI ((cm_ko cm_al K + cm_ni cm_al r) + 1), nI (cm_kv cm_al ((m, pl, pc, ar, (c, 0, 0, z) :: r) :: K)), 0, nI s, y_shownSteps, -9223372036854775808, x_lineClass, x_lineLength, y_has, x_isSealed, y_initial, x_superDraft, y_draftHas, y_draftInitial, y_lists, y_listLength, y_gone, x_objectClass, y_slots, x_parameterCount, x_methodGeneric, y_single, y_special, x_tokenKind, x_tokenCount, x_tokenValue, y_methodAt, y_pc, y_chosen, y_many, y_reached, y_opsAt, y_broken, y_arguments, vp_updL y_operands (cm_kv cm_al ((m, pl, pc, ar, (c, 0, 0, z) :: r) :: K)) v, y_operator, upd y_got (cm_ko cm_al K + cm_ni cm_al r) (nI 1))) → (v = 0 → cm_Q post' n1 (nI nc, nI ns, nI no, nI nd, nI (K.length + 1), nI (cm_ko cm_al K + cm_ni cm_al r), nI (cm_kv cm_al ((m, pl, pc, ar, (c, 0, 0, z) :: r) :: K)), 0, nI s, y_shownSteps, -9223372036854775808, x_lineClass, x_lineLength, y_has, x_isSealed, y_initial, x_superDraft, y_draftHas, y_draftInitial, y_lists, y_listLength, y_gone, x_objectClass, y_slots, x_parameterCount, x_methodGeneric, y_single, y_special, x_tokenKind, x_tokenCount, x_tokenValue, y_methodAt, upd y_pc K.length (nI (pc + e)), y_chosen, y_many, y_reached, y_opsAt, y_broken, y_arguments, vp_updL y_operands (cm_kv cm_al ((m, pl, pc, ar, (c, 0, 0, z) :: r) :: K)) v, y_operator, upd y_got (cm_ko cm_al K + cm_ni cm_al r) (nI 1))) → D post' := by
    intro post' n1 hq1 hq0
    refine hY post' ⟨n1, 2, ?_⟩
    rw [y8]
    refine my_dl_item (n := 0) hd (by omega) (by omega) (by omega) (by omega) y1 y2 y4 y5 (fun P h0 h1 => ?_)
    rw [← a11]
    refine my_cp_if hc400 (by omega) (g1 := 1) (by omega) pk_us ek (fun P' hP' => ?_)
    refine my_choose1 (s := e) hd a1 hC.2.2.2.1 a5 a8 a12 y2 y3 (by omega) he2 (by omega) (fun zz => hP' _ _ (Or.inl rfl) (h0 _ (hq1 ?_))) (fun zz => hP' _ _ (Or.inl rfl) (h0 _ (hq0 ?_)))
    · rw [pk_uLs] at zz; exact zz
    · rw [pk_uLs] at zz; exact zz
  rw [x8, x9]
  refine mx_cl_T (by omega) (fun P hP => mx_tk_if1 hd (by omega) (by omega) x1 (vc := (cm_kv (cm_vx x_tokenKind) K + cm_nv (cm_vx x_tokenKind) r) + 0) (s := e) (by omega) a1 hC.2.2.2.1 a5 a8 a12 x2 x3 (by omega) he2 (by rw [x4, ek]) (by rw [x6, hA]) (fun zz => hP _ _ _ _ _ _ _ _ _ _ _ _ _ _ _ _ _ _ _ _ _ _ _ _ _ _ _ _ _ _ _ _ _ _ _ _ _ _ _ ?_) (fun zz => hP _ _ _ _ _ _ _ _ _ _ _ _ _ _ _ _ _ _ _ _ _ _ _ _ _ _ _ _ _ _ _ _ _ _ _ _ _ _ _ ?_))
  · have vz : v = 0 := by rw [← hwo]; exact zz
    exact ihW no s (tt + 1) (m, pl, pc + e, ar, r) K _ _ _ _ _ _ _ _ _ _ _ _ x_argument x_rank x_orderPlace x_enterGeneric x_enterPlace _ _ _ _ _ _ _ _ _ _ _ _ hJ0 hn (by unfold cm_fi; omega) (by unfold cm_fi; omega) (fun post' he => by
      obtain ⟨n1, hcl⟩ := he
      refine hYc post' n1 (fun w => absurd vz w) (fun _ => ?_)
      have eh : cm_kv cm_al ((m, pl, pc, ar, (c, 0, 0, z) :: r) :: K) = cm_kv cm_al ((m, pl, pc + e, ar, r) :: K) := by rw [y9]; rfl
      rw [eh] at hcl ⊢
      exact hcl) n' (by unfold cm_fi; omega)
  · have vz : ¬ v = 0 := by rw [← hwo]; exact zz
    have hr := ihW no s (tt + 1) (m, pl, pc, ar, (c, 1, 0, z) :: r) K _ _ _ _ _ _ _ _ _ _ _ _ x_argument x_rank x_orderPlace x_enterGeneric x_enterPlace _ _ _ _ _ _ _ _ _ _ _ _ hJ1 hn (by unfold cm_fi; omega) (by unfold cm_fi; omega) (fun post' he => by
      obtain ⟨n1, hcl⟩ := he
      refine hYc post' n1 (fun _ => ?_) (fun w => absurd w vz)
      rw [w10, w11] at hcl
      rw [y9] at hcl ⊢
      exact hcl) n' (by unfold cm_fi; omega)
    rw [w8, w9] at hr
    exact hr
theorem cm_T_if1 {μ no s tt m pl pc c : Nat} {z : Nat → Int64} {v : Int64} {ar : Nat → Int64} {r : List cm_It} {K : List cm_Fr} (hC : cm_C nc no0 ns nd x_lineClass x_lineLength x_methodGeneric x_parameterCount x_specialiser x_tokenKind x_tokenValue x_tokenCount x_isSealed x_classHasSlot x_classSlot x_superDraft y_has y_initial y_draftHas y_draftInitial y_lists y_listLength y_gone y_single y_special y_shownSteps) (ihT : cm_PT D kk nc no0 ns nd x_lineClass x_lineLength x_methodGeneric x_parameterCount x_specialiser x_tokenKind x_tokenValue x_tokenCount x_isSealed x_classHasSlot x_classSlot x_superDraft y_has y_initial y_draftHas y_draftInitial y_lists y_listLength y_gone y_single y_special y_shownSteps μ) (h : cm_J nc (0) ((m, pl, pc, ar, (c, 1, 0, z) :: r)) (K) (s) (no) x_lineClass x_lineLength x_methodGeneric x_parameterCount x_specialiser x_tokenKind x_tokenValue x_tokenCount x_objectClass x_objectHasSlot x_objectSlot x_frameMethod x_framePlace x_frameToken x_frameOperators x_frameArgument x_operatorKind x_operatorValue x_operatorLeft x_workedOut y_slots y_methodAt y_reached y_pc y_opsAt y_arguments y_operator y_got y_operands y_many y_broken y_chosen) (hn : no0 ≤ no) (hv : rl_val no v) (hwo : x_workedOut (cm_kv (cm_vx x_tokenKind) ((m, pl, pc, ar, (c, 1, 0, z) :: r) :: K)) = v) (hmu : cm_fi (cm_A x_parameterCount x_tokenKind x_tokenValue) s ((m, pl, pc, ar, (c, 1, 0, z) :: r) :: K) 1 ≤ μ + 1) (htt : tt + cm_fi (cm_A x_parameterCount x_tokenKind x_tokenValue) s ((m, pl, pc, ar, (c, 1, 0, z) :: r) :: K) 1 ≤ 4000) (ek : x_tokenKind c = nI 9)
    (hY : ∀ post' : Int32 → SY → Prop, (∃ n9 n5, wY_deliver_5 (cm_Q post' n9) n5 v 1 (nI nc) (nI ns) (nI no) (nI nd) (nI (K.length + 1)) (nI (cm_ko cm_al ((m, pl, pc, ar, (c, 1, 0, z) :: r) :: K))) (nI (cm_kv cm_al ((m, pl, pc, ar, (c, 1, 0, z) :: r) :: K))) 0 (nI s) y_shownSteps (-9223372036854775808) x_lineClass x_lineLength y_has x_isSealed y_initial x_superDraft y_draftHas y_draftInitial y_lists y_listLength y_gone x_objectClass y_slots x_parameterCount x_methodGeneric y_single y_special x_tokenKind x_tokenCount x_tokenValue y_methodAt y_pc y_chosen y_many y_reached y_opsAt y_broken y_arguments y_operands y_operator y_got) → D post') : ∀ n', cm_fi (cm_A x_parameterCount x_tokenKind x_tokenValue) s ((m, pl, pc, ar, (c, 1, 0, z) :: r) :: K) 1 < n' + 1 → wX_call_23 (fun r u' => D (fun r' v' => r' = r ∧ i_Rel kk u' v')) (n' + 1) (nI tt) (nI nc) (nI ns) (nI no) (nI nd) (-3) (nI s) (-9223372036854775808) x_enterGeneric x_enterPlace (nI (K.length + 1)) (nI (cm_ko (cm_vx x_tokenKind) ((m, pl, pc, ar, (c, 1, 0, z) :: r) :: K))) (nI (cm_kv (cm_vx x_tokenKind) ((m, pl, pc, ar, (c, 1, 0, z) :: r) :: K) + 1)) x_lineClass x_lineLength x_isSealed x_classHasSlot x_classSlot x_superDraft x_objectClass x_objectHasSlot x_objectSlot x_parameterCount x_methodGeneric x_specialiser x_tokenKind x_tokenValue x_tokenCount x_argument x_rank x_orderPlace x_frameMethod x_framePlace x_frameToken x_frameOperators x_frameArgument x_operatorKind x_operatorValue x_operatorLeft x_workedOut := by
  obtain ⟨gg, p, t, j, a1, a2, a3, a4, a5, a6, a7, a8, a9, a10, a11, a12, a13, a14, a15, a16, a17, a18⟩ := cm_top hC.2.2.2.2.2.1 h
  obtain ⟨k1, k2, k3, k4⟩ := cm_J_cnt h
  have hd := h.2.2.2.1
  have ho := h.1
  have ho20 := ho.1
  obtain ⟨x1, x2, x3, x4, x5, x6, x7, x8, x9⟩ := cm_item h (cm_vx_t (fun zz => by have z1 : x_tokenKind c = 10 := zz.1; rw [ek] at z1; exact absurd z1 (by decide)))
  obtain ⟨y1, y2, y3, y4, y5, y7, y8, y9⟩ := cm_itemY h
  have hcj : c % 16 = j := by omega
  have hc400 : c < 400 := by omega
  rw [hcj] at y4
  have htk := a12 j a10
  rw [← a11] at htk
  have e3 : ((m, pl, pc, ar, (c, 1, 0, z) :: r) :: K).length = K.length + 1 := rfl
  have e4 : cm_kl (cm_A x_parameterCount x_tokenKind x_tokenValue) ((m, pl, pc, ar, (c, 1, 0, z) :: r) :: K) = cm_kl (cm_A x_parameterCount x_tokenKind x_tokenValue) K + (cm_lf (cm_A x_parameterCount x_tokenKind x_tokenValue) r + ((cm_A x_parameterCount x_tokenKind x_tokenValue) c - 1)) := rfl
  have kn1 : cm_ni (cm_vx x_tokenKind) r ≤ cm_ni cm_al r := cm_ni_le _ _
  have kn2 : cm_nv (cm_vx x_tokenKind) r ≤ cm_nv cm_al r := cm_nv_le _ _
  have kk1 : cm_ko (cm_vx x_tokenKind) K ≤ cm_ko cm_al K := cm_ko_le _ _
  have kk2 : cm_kv (cm_vx x_tokenKind) K ≤ cm_kv cm_al K := cm_kv_le _ _
  have eTX : x_frameToken K.length = nI pc := h.2.2.2.2.2.2.1.1.2.2.1
  unfold cm_fi at hmu htt
  intro n' hn'
  unfold cm_fi at hn'
  have hA : (cm_A x_parameterCount x_tokenKind x_tokenValue) c = 3 := by rw [cm_kind ek]; rfl
  rw [x9] at hwo
  rw [hA, show cm_nd (cm_A x_parameterCount x_tokenKind x_tokenValue) r + (3 - 1 - 1) + 0 = 1 + cm_nd (cm_A x_parameterCount x_tokenKind x_tokenValue) r by omega] at a17
  obtain ⟨e, he1, he2, he3⟩ := pa_split (t - pc) pc 1 (cm_nd (cm_A x_parameterCount x_tokenKind x_tokenValue) r) a17
  rw [show t - pc - e = t - (pc + e) by omega] at he3
  have p1 : cm_kl (cm_A x_parameterCount x_tokenKind x_tokenValue) ((m, pl, pc + e, ar, r) :: K) = cm_kl (cm_A x_parameterCount x_tokenKind x_tokenValue) K + cm_lf (cm_A x_parameterCount x_tokenKind x_tokenValue) r := rfl
  have p2 : ((m, pl, pc + e, ar, r) :: K).length = K.length + 1 := rfl
  have hJ0 := cm_mv_pop (x := 0) (pc' := pc + e) (fT' := upd x_frameToken K.length (nI (pc + e))) (pC' := upd y_pc K.length (nI (pc + e))) (oL' := upd x_operatorLeft (cm_ko (cm_vx x_tokenKind) K + cm_ni (cm_vx x_tokenKind) r) (nI 1)) (wo' := x_workedOut) (go' := upd y_got (cm_ko cm_al K + cm_ni cm_al r) (nI 2)) (od' := vp_updL y_operands (cm_kv cm_al ((m, pl, pc, ar, (c, 1, 0, z) :: r) :: K)) v) h (by omega) a8 a5 (by omega) he3 pk_us pk_us (fun j hj => pk_un (by omega)) (fun j hj => pk_un (by omega)) (fun j hj => pk_uLn (by omega)) (fun _ _ => rfl) (fun j hj => pk_un (by omega)) (fun j hj => pk_un (by omega))
  have eh : cm_kv cm_al ((m, pl, pc, ar, (c, 1, 0, z) :: r) :: K) = cm_kv cm_al ((m, pl, pc + e, ar, r) :: K) := by rw [y9]; rfl
  rw [x8, x9]
  refine mx_cl_T (by omega) (fun P hP => mx_tk_if2 hd (by omega) (by omega) x1 (s := e) a1 hC.2.2.2.1 a5 a8 a12 x2 x3 (by omega) he2 (by rw [x4, ek]) (by rw [x6, hA]) (hP _ _ _ _ _ _ _ _ _ _ _ _ _ _ _ _ _ _ _ _ _ _ _ _ _ _ _ _ _ _ _ _ _ _ _ _ _ _ _ ?_))
  exact ihT no s (tt + 1) v (m, pl, pc + e, ar, r) K _ _ _ _ _ _ _ _ _ _ _ _ x_argument x_rank x_orderPlace x_enterGeneric x_enterPlace _ _ _ _ _ _ _ _ _ _ _ _ hJ0 hn hv hwo (by unfold cm_fi; omega) (by unfold cm_fi; omega) (fun post' he => by
    obtain ⟨n1, n5, hdl⟩ := he
    cases n5 with
    | zero => exact hdl.elim
    | succ n6 =>
      refine hY post' ⟨n1, n6 + 2, ?_⟩
      rw [y8]
      refine my_dl_item (n := n6) hd (by omega) (by omega) (by omega) (by omega) y1 y2 y4 y5 (fun P h0 h1 => ?_)
      rw [← a11]
      refine my_cp_if hc400 (by omega) (g1 := 2) (by omega) pk_us ek (fun P' hP' => ?_)
      refine my_choose2 (s := e) hd a1 hC.2.2.2.1 a5 a8 a12 y2 y3 (by omega) he2 (by omega) (hP' _ _ (Or.inr rfl) (h1 _ _ _ _ _ _ 0 _ _ _ _ _ _ _ _ _ _ _ _ _ _ _ _ _ _ _ _ _ _ _ _ _ _ _ _ _ _ _ _ _ _ _ (cm_kv cm_al ((m, pl, pc, ar, (c, 1, 0, z) :: r) :: K)) (by omega) ?_))
      rw [pk_uLs]
      rw [eh] at hdl ⊢
      exact hdl) n' (by unfold cm_fi; omega)
end
end
section
/-! the simulation: operators applied -/
section
variable {x_classCount : Int32} {x_superCount : Int32} {x_objectCount : Int32} {x_draftSpecialCount : Int32} {x_state : Int32} {x_stepCount : Int32} {x_latestValue : Int64} {x_enterGeneric : Int32} {x_enterPlace : Int32} {x_frameCount : Int32} {x_operatorCount : Int32} {x_valueCount : Int32} {x_lineClass : Nat → Int32} {x_lineLength : Nat → Int32} {x_isSealed : Nat → Int32} {x_classHasSlot : Nat → Int32} {x_classSlot : Nat → Int32} {x_superDraft : Nat → Int32} {x_objectClass : Nat → Int32} {x_objectHasSlot : Nat → Int32} {x_objectSlot : Nat → Int64} {x_parameterCount : Nat → Int32} {x_methodGeneric : Nat → Int32} {x_specialiser : Nat → Int64} {x_tokenKind : Nat → Int32} {x_tokenValue : Nat → Int32} {x_tokenCount : Nat → Int32} {x_argument : Nat → Int64} {x_rank : Nat → Int32} {x_orderPlace : Nat → Int32} {x_frameMethod : Nat → Int32} {x_framePlace : Nat → Int32} {x_frameToken : Nat → Int32} {x_frameOperators : Nat → Int32} {x_frameArgument : Nat → Int64} {x_operatorKind : Nat → Int32} {x_operatorValue : Nat → Int32} {x_operatorLeft : Nat → Int32} {x_workedOut : Nat → Int64} {y_classes : Int32} {y_supers : Int32} {y_objects : Int32} {y_specials : Int32} {y_depth : Int32} {y_ops : Int32} {y_held : Int32} {y_fault : Int32} {y_steps : Int32} {y_shownSteps : Int32} {y_result : Int64} {y_line : Nat → Int32} {y_lineLength : Nat → Int32} {y_has : Nat → Int32} {y_sealed : Nat → Int32} {y_initial : Nat → Int32} {y_drafted : Nat → Int32} {y_draftHas : Nat → Int32} {y_draftInitial : Nat → Int32} {y_lists : Nat → Int32} {y_listLength : Nat → Int32} {y_gone : Nat → Int32} {y_classOfObject : Nat → Int32} {y_slots : Nat → Int64} {y_parameters : Nat → Int32} {y_generic : Nat → Int32} {y_single : Nat → Int32} {y_special : Nat → Int64} {y_kind : Nat → Int32} {y_tokens : Nat → Int32} {y_with : Nat → Int32} {y_methodAt : Nat → Int32} {y_pc : Nat → Int32} {y_chosen : Nat → Int32} {y_many : Nat → Int32} {y_reached : Nat → Int32} {y_opsAt : Nat → Int32} {y_broken : Nat → Int32} {y_arguments : Nat → Int64} {y_operands : Nat → Int64} {y_operator : Nat → Int32} {y_got : Nat → Int32} {D : (Int32 → SY → Prop) → Prop} {kk nc no0 ns nd : Nat}
/-- an operator has given a value -/
theorem cm_T_val {μ no s tt m pl pc c g n : Nat} {z : Nat → Int64} {w : Int64} {ar : Nat → Int64} {r : List cm_It} {K : List cm_Fr} {od' OS' SL' : Nat → Int64} (hC : cm_C nc no0 ns nd x_lineClass x_lineLength x_methodGeneric x_parameterCount x_specialiser x_tokenKind x_tokenValue x_tokenCount x_isSealed x_classHasSlot x_classSlot x_superDraft y_has y_initial y_draftHas y_draftInitial y_lists y_listLength y_gone y_single y_special y_shownSteps) (ihT : cm_PT D kk nc no0 ns nd x_lineClass x_lineLength x_methodGeneric x_parameterCount x_specialiser x_tokenKind x_tokenValue x_tokenCount x_isSealed x_classHasSlot x_classSlot x_superDraft y_has y_initial y_draftHas y_draftInitial y_lists y_listLength y_gone y_single y_special y_shownSteps μ) (h : cm_J nc (0) ((m, pl, pc, ar, (c, g, n, z) :: r)) (K) (s) (no) x_lineClass x_lineLength x_methodGeneric x_parameterCount x_specialiser x_tokenKind x_tokenValue x_tokenCount x_objectClass x_objectHasSlot x_objectSlot x_frameMethod x_framePlace x_frameToken x_frameOperators x_frameArgument x_operatorKind x_operatorValue x_operatorLeft x_workedOut y_slots y_methodAt y_reached y_pc y_opsAt y_arguments y_operator y_got y_operands y_many y_broken y_chosen) (hn : no0 ≤ no) (hA : (cm_A x_parameterCount x_tokenKind x_tokenValue) c = g + 1) (hw : rl_val no w) (hod : ∀ j, j < (cm_kv cm_al K + cm_nv cm_al r) → od' j = y_operands j) (hob : rl_obj nc no x_objectClass x_objectHasSlot OS' SL') (hmu : cm_fi (cm_A x_parameterCount x_tokenKind x_tokenValue) s ((m, pl, pc, ar, (c, g, n, z) :: r) :: K) 1 ≤ μ + 1) (htt : tt + cm_fi (cm_A x_parameterCount x_tokenKind x_tokenValue) s ((m, pl, pc, ar, (c, g, n, z) :: r) :: K) 1 ≤ 4000)
    (hY : ∀ post' : Int32 → SY → Prop, (∃ n9 n5, wY_deliver_5 (cm_Q post' n9) n5 w 1 (nI nc) (nI ns) (nI no) (nI nd) (nI (K.length + 1)) (nI (cm_ko cm_al K + cm_ni cm_al r)) (nI (cm_kv cm_al K + cm_nv cm_al r)) 0 (nI s) y_shownSteps (-9223372036854775808) x_lineClass x_lineLength y_has x_isSealed y_initial x_superDraft y_draftHas y_draftInitial y_lists y_listLength y_gone x_objectClass SL' x_parameterCount x_methodGeneric y_single y_special x_tokenKind x_tokenCount x_tokenValue y_methodAt y_pc y_chosen y_many y_reached y_opsAt y_broken y_arguments od' y_operator (upd y_got (cm_ko cm_al K + cm_ni cm_al r) (nI (g + 1)))) → D post') : ∀ n', cm_fi (cm_A x_parameterCount x_tokenKind x_tokenValue) s ((m, pl, pc, ar, (c, g, n, z) :: r) :: K) 1 < n' + 1 → wX_call_23 (fun r u' => D (fun r' v' => r' = r ∧ i_Rel kk u' v')) n' (nI (tt + 1)) (nI nc) (nI ns) (nI no) (nI nd) (-3) (nI s) (-9223372036854775808) x_enterGeneric x_enterPlace (nI (K.length + 1)) (nI (cm_ko (cm_vx x_tokenKind) K + cm_ni (cm_vx x_tokenKind) r)) (nI ((cm_kv (cm_vx x_tokenKind) K + cm_nv (cm_vx x_tokenKind) r) + 1)) x_lineClass x_lineLength x_isSealed x_classHasSlot x_classSlot x_superDraft x_objectClass x_objectHasSlot OS' x_parameterCount x_methodGeneric x_specialiser x_tokenKind x_tokenValue x_tokenCount x_argument x_rank x_orderPlace x_frameMethod x_framePlace x_frameToken x_frameOperators x_frameArgument x_operatorKind x_operatorValue (upd x_operatorLeft (cm_ko (cm_vx x_tokenKind) K + cm_ni (cm_vx x_tokenKind) r) (nI 0)) (vp_updL x_workedOut (cm_kv (cm_vx x_tokenKind) K + cm_nv (cm_vx x_tokenKind) r) w) := by
  obtain ⟨gg, p, t, j, a1, a2, a3, a4, a5, a6, a7, a8, a9, a10, a11, a12, a13, a14, a15, a16, a17, a18⟩ := cm_top hC.2.2.2.2.2.1 h
  obtain ⟨y1, y2, y3, y4, y5, y7, y8, y9⟩ := cm_itemY h
  have eTX : x_frameToken K.length = nI pc := h.2.2.2.2.2.2.1.1.2.2.1
  have e3 : ((m, pl, pc, ar, (c, g, n, z) :: r) :: K).length = K.length + 1 := rfl
  have e4 : cm_kl (cm_A x_parameterCount x_tokenKind x_tokenValue) ((m, pl, pc, ar, (c, g, n, z) :: r) :: K) = cm_kl (cm_A x_parameterCount x_tokenKind x_tokenValue) K + (cm_lf (cm_A x_parameterCount x_tokenKind x_tokenValue) r + ((cm_A x_parameterCount x_tokenKind x_tokenValue) c - g)) := rfl
  have p1 : cm_kl (cm_A x_parameterCount x_tokenKind x_tokenValue) ((m, pl, pc, ar, r) :: K) = cm_kl (cm_A x_parameterCount x_tokenKind x_tokenValue) K + cm_lf (cm_A x_parameterCount x_tokenKind x_tokenValue) r := rfl
  have p2 : ((m, pl, pc, ar, r) :: K).length = K.length + 1 := rfl
  rw [hA, show cm_nd (cm_A x_parameterCount x_tokenKind x_tokenValue) r + (g + 1 - g - 1) + 0 = cm_nd (cm_A x_parameterCount x_tokenKind x_tokenValue) r + 0 by omega] at a17
  have hJ := cm_mv_pop (x := 0) (pc' := pc) (fT' := x_frameToken) (pC' := y_pc) (oL' := upd x_operatorLeft (cm_ko (cm_vx x_tokenKind) K + cm_ni (cm_vx x_tokenKind) r) (nI 0)) (wo' := vp_updL x_workedOut (cm_kv (cm_vx x_tokenKind) K + cm_nv (cm_vx x_tokenKind) r) w) (go' := upd y_got (cm_ko cm_al K + cm_ni cm_al r) (nI (g + 1))) (od' := od') h (by omega) a8 a5 a9 a17 eTX y3 (fun _ _ => rfl) (fun _ _ => rfl) hod (fun j hj => pk_uLn (by omega)) (fun j hj => pk_un (by omega)) (fun j hj => pk_un (by omega))
  have hJ2 := cm_mv_obj (no' := no) hJ (Nat.le_refl _) (OC' := x_objectClass) (OH' := x_objectHasSlot) (OS' := OS') (SL' := SL') (fun _ _ => rfl) hob
  unfold cm_fi at hmu htt
  intro n' hn'
  unfold cm_fi at hn'
  exact ihT no s (tt + 1) w (m, pl, pc, ar, r) K _ _ _ _ _ _ _ _ _ _ _ _ x_argument x_rank x_orderPlace x_enterGeneric x_enterPlace _ _ _ _ _ _ _ _ _ _ _ _ hJ2 hn hw pk_uLs (by unfold cm_fi; omega) (by unfold cm_fi; omega) hY n' (by unfold cm_fi; omega)
theorem cm_T_get {μ no s tt m pl pc c : Nat} {z : Nat → Int64} {v : Int64} {ar : Nat → Int64} {r : List cm_It} {K : List cm_Fr} (hC : cm_C nc no0 ns nd x_lineClass x_lineLength x_methodGeneric x_parameterCount x_specialiser x_tokenKind x_tokenValue x_tokenCount x_isSealed x_classHasSlot x_classSlot x_superDraft y_has y_initial y_draftHas y_draftInitial y_lists y_listLength y_gone y_single y_special y_shownSteps) (ihT : cm_PT D kk nc no0 ns nd x_lineClass x_lineLength x_methodGeneric x_parameterCount x_specialiser x_tokenKind x_tokenValue x_tokenCount x_isSealed x_classHasSlot x_classSlot x_superDraft y_has y_initial y_draftHas y_draftInitial y_lists y_listLength y_gone y_single y_special y_shownSteps μ) (h : cm_J nc (0) ((m, pl, pc, ar, (c, 0, 0, z) :: r)) (K) (s) (no) x_lineClass x_lineLength x_methodGeneric x_parameterCount x_specialiser x_tokenKind x_tokenValue x_tokenCount x_objectClass x_objectHasSlot x_objectSlot x_frameMethod x_framePlace x_frameToken x_frameOperators x_frameArgument x_operatorKind x_operatorValue x_operatorLeft x_workedOut y_slots y_methodAt y_reached y_pc y_opsAt y_arguments y_operator y_got y_operands y_many y_broken y_chosen) (hn : no0 ≤ no) (hv : rl_val no v) (hwo : x_workedOut (cm_kv (cm_vx x_tokenKind) ((m, pl, pc, ar, (c, 0, 0, z) :: r) :: K)) = v) (hmu : cm_fi (cm_A x_parameterCount x_tokenKind x_tokenValue) s ((m, pl, pc, ar, (c, 0, 0, z) :: r) :: K) 1 ≤ μ + 1) (htt : tt + cm_fi (cm_A x_parameterCount x_tokenKind x_tokenValue) s ((m, pl, pc, ar, (c, 0, 0, z) :: r) :: K) 1 ≤ 4000) {nn : Nat} (hnn : nn < 4) (ek : x_tokenKind c = nI 4) (ew : x_tokenValue c = nI nn)
    (hY : ∀ post' : Int32 → SY → Prop, (∃ n9 n5, wY_deliver_5 (cm_Q post' n9) n5 v 1 (nI nc) (nI ns) (nI no) (nI nd) (nI (K.length + 1)) (nI (cm_ko cm_al ((m, pl, pc, ar, (c, 0, 0, z) :: r) :: K))) (nI (cm_kv cm_al ((m, pl, pc, ar, (c, 0, 0, z) :: r) :: K))) 0 (nI s) y_shownSteps (-9223372036854775808) x_lineClass x_lineLength y_has x_isSealed y_initial x_superDraft y_draftHas y_draftInitial y_lists y_listLength y_gone x_objectClass y_slots x_parameterCount x_methodGeneric y_single y_special x_tokenKind x_tokenCount x_tokenValue y_methodAt y_pc y_chosen y_many y_reached y_opsAt y_broken y_arguments y_operands y_operator y_got) → D post') : ∀ n', cm_fi (cm_A x_parameterCount x_tokenKind x_tokenValue) s ((m, pl, pc, ar, (c, 0, 0, z) :: r) :: K) 1 < n' + 1 → wX_call_23 (fun r u' => D (fun r' v' => r' = r ∧ i_Rel kk u' v')) (n' + 1) (nI tt) (nI nc) (nI ns) (nI no) (nI nd) (-3) (nI s) (-9223372036854775808) x_enterGeneric x_enterPlace (nI (K.length + 1)) (nI (cm_ko (cm_vx x_tokenKind) ((m, pl, pc, ar, (c, 0, 0, z) :: r) :: K))) (nI (cm_kv (cm_vx x_tokenKind) ((m, pl, pc, ar, (c, 0, 0, z) :: r) :: K) + 1)) x_lineClass x_lineLength x_isSealed x_classHasSlot x_classSlot x_superDraft x_objectClass x_objectHasSlot x_objectSlot x_parameterCount x_methodGeneric x_specialiser x_tokenKind x_tokenValue x_tokenCount x_argument x_rank x_orderPlace x_frameMethod x_framePlace x_frameToken x_frameOperators x_frameArgument x_operatorKind x_operatorValue x_operatorLeft x_workedOut := by
  obtain ⟨gg, p, t, j, a1, a2, a3, a4, a5, a6, a7, a8, a9, a10, a11, a12, a13, a14, a15, a16, a17, a18⟩ := cm_top hC.2.2.2.2.2.1 h
  obtain ⟨k1, k2, k3, k4⟩ := cm_J_cnt h
  have hd := h.2.2.2.1
  have ho := h.1
  have ho20 := ho.1
  obtain ⟨x1, x2, x3, x4, x5, x6, x7, x8, x9⟩ := cm_item h (cm_vx_t (fun zz => by have z1 : x_tokenKind c = 10 := zz.1; rw [ek] at z1; exact absurd z1 (by decide)))
  obtain ⟨y1, y2, y3, y4, y5, y7, y8, y9⟩ := cm_itemY h
  have hcj : c % 16 = j := by omega
  have hc400 : c < 400 := by omega
  rw [hcj] at y4
  have htk := a12 j a10
  rw [← a11] at htk
  have e3 : ((m, pl, pc, ar, (c, 0, 0, z) :: r) :: K).length = K.length + 1 := rfl
  have e4 : cm_kl (cm_A x_parameterCount x_tokenKind x_tokenValue) ((m, pl, pc, ar, (c, 0, 0, z) :: r) :: K) = cm_kl (cm_A x_parameterCount x_tokenKind x_tokenValue) K + (cm_lf (cm_A x_parameterCount x_tokenKind x_tokenValue) r + ((cm_A x_parameterCount x_tokenKind x_tokenValue) c - 0)) := rfl
  have kn1 : cm_ni (cm_vx x_tokenKind) r ≤ cm_ni cm_al r := cm_ni_le _ _
  have kn2 : cm_nv (cm_vx x_tokenKind) r ≤ cm_nv cm_al r := cm_nv_le _ _
  have kk1 : cm_ko (cm_vx x_tokenKind) K ≤ cm_ko cm_al K := cm_ko_le _ _
  have kk2 : cm_kv (cm_vx x_tokenKind) K ≤ cm_kv cm_al K := cm_kv_le _ _
  have eTX : x_frameToken K.length = nI pc := h.2.2.2.2.2.2.1.1.2.2.1
  unfold cm_fi at hmu htt
  intro n' hn'
  unfold cm_fi at hn'
  have hA : (cm_A x_parameterCount x_tokenKind x_tokenValue) c = 1 := by rw [cm_kind ek]; rfl
  rw [x9] at hwo
  have hwo' : x_workedOut (cm_kv (cm_vx x_tokenKind) K + cm_nv (cm_vx x_tokenKind) r) = v := hwo
  have od1 : vp_updL y_operands ((cm_kv cm_al K + cm_nv cm_al r) + 0) v (cm_kv cm_al K + cm_nv cm_al r) = v := pk_uLs
  rw [x8, x9]
  refine mx_cl_T (by omega) (fun P hP => mx_tk_app hd (by omega) (by omega) x1 (q := 4) (w := nI nn) (by omega) (by omega) (by omega) (by rw [x4, ek]) (by rw [x6, hA]) (by rw [x5, ew]) (mx_ap_get (vc := (cm_kv (cm_vx x_tokenKind) K + cm_nv (cm_vx x_tokenKind) r)) ho20 hnn (by omega) (fun hE => hP _ _ _ _ _ _ _ _ _ _ _ _ _ _ _ _ _ _ _ _ _ _ _ _ _ _ _ _ _ _ _ _ _ _ _ _ _ _ _ ?_) (fun k hk e1 e2 => hP _ _ _ _ _ _ _ _ _ _ _ _ _ _ _ _ _ _ _ _ _ _ _ _ _ _ _ _ _ _ _ _ _ _ _ _ _ _ _ ?_)))
  · rw [hwo'] at hE
    refine cm_halt (y_depth := nI (K.length + 1)) (y_ops := nI (cm_ko cm_al K + cm_ni cm_al r)) (y_held := nI (cm_kv cm_al K + cm_nv cm_al r)) (y_shownSteps := y_shownSteps) (y_has := y_has) (y_initial := y_initial) (y_draftHas := y_draftHas) (y_draftInitial := y_draftInitial) (y_lists := y_lists) (y_listLength := y_listLength) (y_gone := y_gone) (y_slots := y_slots) (y_single := y_single) (y_special := y_special) (y_methodAt := y_methodAt) (y_pc := y_pc) (y_chosen := y_chosen) (y_many := y_many) (y_reached := y_reached) (y_opsAt := y_opsAt) (y_broken := y_broken) (y_arguments := y_arguments) (y_operands := vp_updL (vp_updL y_operands ((cm_kv cm_al K + cm_nv cm_al r) + 0) v) (cm_kv cm_al K + cm_nv cm_al r) 0) (y_operator := y_operator) (y_got := upd y_got (cm_ko cm_al K + cm_ni cm_al r) (nI 1)) (F := 4) (by decide) (by decide) hC hn ho (fun post' he => ?_) n' (by omega)
    obtain ⟨n1, hcl⟩ := he
    refine hY post' ⟨n1, 0 + 2, ?_⟩
    rw [y8]
    refine my_dl_item (n := 0) hd (by omega) (by omega) (by omega) (by omega) y1 y2 y4 y5 (fun P h0 h1 => ?_)
    rw [← a11, y9]
    refine my_cp_get (hh := (cm_kv cm_al K + cm_nv cm_al r)) hc400 (by omega) (g1 := 1) (by omega) pk_us hC.2.2.2.1 htk hA ho20 hnn (by omega) ek ew (by rw [od1]; exact hv) (fun _ => h1 _ _ _ _ _ _ 0 _ _ _ _ _ _ _ _ _ _ _ _ _ _ _ _ _ _ _ _ _ _ _ _ _ _ _ _ _ _ _ _ _ _ _ (cm_kv cm_al K + cm_nv cm_al r) (by omega) (my_dl_fault (by decide) hcl)) (fun k hk e1 e2 => ?_)
    rw [od1] at e1
    rcases ob_sl ho hk hnn with ⟨_, z2⟩ | ⟨z1, _⟩
    · exact absurd z2 e2
    · exact absurd ⟨k, hk, e1, z1⟩ hE
  · rw [hwo'] at e1
    rcases ob_sl ho hk hnn with ⟨z1, _⟩ | ⟨z1, z2, z3, z4⟩
    · exact absurd z1 e2
    · refine cm_T_val (od' := vp_updL (vp_updL y_operands ((cm_kv cm_al K + cm_nv cm_al r) + 0) v) (cm_kv cm_al K + cm_nv cm_al r) (x_objectSlot (4 * k + nn))) hC ihT h hn hA z4 (fun j hj => by rw [pk_uLn (by omega), pk_uLn (by omega)]) ho (by unfold cm_fi; omega) (by unfold cm_fi; omega) (fun post' he => ?_) n' (by unfold cm_fi; omega)
      obtain ⟨n1, n5, hdl⟩ := he
      cases n5 with
      | zero => exact hdl.elim
      | succ n6 =>
        refine hY post' ⟨n1, n6 + 2, ?_⟩
        rw [y8]
        refine my_dl_item (n := n6) hd (by omega) (by omega) (by omega) (by omega) y1 y2 y4 y5 (fun P h0 h1 => ?_)
        rw [← a11, y9]
        refine my_cp_get (hh := (cm_kv cm_al K + cm_nv cm_al r)) hc400 (by omega) (g1 := 1) (by omega) pk_us hC.2.2.2.1 htk hA ho20 hnn (by omega) ek ew (by rw [od1]; exact hv) (fun hE => ?_) (fun k' hk' e1' e2' => ?_)
        · rw [od1] at hE
          exact absurd ⟨k, hk, e1, z2⟩ hE
        · rw [od1, e1] at e1'
          have ekk := ob_inj (by omega) (by omega) e1'
          subst ekk
          refine h1 _ _ _ _ _ _ 0 _ _ _ _ _ _ _ _ _ _ _ _ _ _ _ _ _ _ _ _ _ _ _ _ _ _ _ _ _ _ _ _ _ _ _ (cm_kv cm_al K + cm_nv cm_al r) (by omega) ?_
          rw [pk_uLs, z3]
          exact hdl
theorem cm_T_is {μ no s tt m pl pc c : Nat} {z : Nat → Int64} {v : Int64} {ar : Nat → Int64} {r : List cm_It} {K : List cm_Fr} (hC : cm_C nc no0 ns nd x_lineClass x_lineLength x_methodGeneric x_parameterCount x_specialiser x_tokenKind x_tokenValue x_tokenCount x_isSealed x_classHasSlot x_classSlot x_superDraft y_has y_initial y_draftHas y_draftInitial y_lists y_listLength y_gone y_single y_special y_shownSteps) (ihT : cm_PT D kk nc no0 ns nd x_lineClass x_lineLength x_methodGeneric x_parameterCount x_specialiser x_tokenKind x_tokenValue x_tokenCount x_isSealed x_classHasSlot x_classSlot x_superDraft y_has y_initial y_draftHas y_draftInitial y_lists y_listLength y_gone y_single y_special y_shownSteps μ) (h : cm_J nc (0) ((m, pl, pc, ar, (c, 0, 0, z) :: r)) (K) (s) (no) x_lineClass x_lineLength x_methodGeneric x_parameterCount x_specialiser x_tokenKind x_tokenValue x_tokenCount x_objectClass x_objectHasSlot x_objectSlot x_frameMethod x_framePlace x_frameToken x_frameOperators x_frameArgument x_operatorKind x_operatorValue x_operatorLeft x_workedOut y_slots y_methodAt y_reached y_pc y_opsAt y_arguments y_operator y_got y_operands y_many y_broken y_chosen) (hn : no0 ≤ no) (hv : rl_val no v) (hwo : x_workedOut (cm_kv (cm_vx x_tokenKind) ((m, pl, pc, ar, (c, 0, 0, z) :: r) :: K)) = v) (hmu : cm_fi (cm_A x_parameterCount x_tokenKind x_tokenValue) s ((m, pl, pc, ar, (c, 0, 0, z) :: r) :: K) 1 ≤ μ + 1) (htt : tt + cm_fi (cm_A x_parameterCount x_tokenKind x_tokenValue) s ((m, pl, pc, ar, (c, 0, 0, z) :: r) :: K) 1 ≤ 4000) (ek : x_tokenKind c = nI 11)
    (hY : ∀ post' : Int32 → SY → Prop, (∃ n9 n5, wY_deliver_5 (cm_Q post' n9) n5 v 1 (nI nc) (nI ns) (nI no) (nI nd) (nI (K.length + 1)) (nI (cm_ko cm_al ((m, pl, pc, ar, (c, 0, 0, z) :: r) :: K))) (nI (cm_kv cm_al ((m, pl, pc, ar, (c, 0, 0, z) :: r) :: K))) 0 (nI s) y_shownSteps (-9223372036854775808) x_lineClass x_lineLength y_has x_isSealed y_initial x_superDraft y_draftHas y_draftInitial y_lists y_listLength y_gone x_objectClass y_slots x_parameterCount x_methodGeneric y_single y_special x_tokenKind x_tokenCount x_tokenValue y_methodAt y_pc y_chosen y_many y_reached y_opsAt y_broken y_arguments y_operands y_operator y_got) → D post') : ∀ n', cm_fi (cm_A x_parameterCount x_tokenKind x_tokenValue) s ((m, pl, pc, ar, (c, 0, 0, z) :: r) :: K) 1 < n' + 1 → wX_call_23 (fun r u' => D (fun r' v' => r' = r ∧ i_Rel kk u' v')) (n' + 1) (nI tt) (nI nc) (nI ns) (nI no) (nI nd) (-3) (nI s) (-9223372036854775808) x_enterGeneric x_enterPlace (nI (K.length + 1)) (nI (cm_ko (cm_vx x_tokenKind) ((m, pl, pc, ar, (c, 0, 0, z) :: r) :: K))) (nI (cm_kv (cm_vx x_tokenKind) ((m, pl, pc, ar, (c, 0, 0, z) :: r) :: K) + 1)) x_lineClass x_lineLength x_isSealed x_classHasSlot x_classSlot x_superDraft x_objectClass x_objectHasSlot x_objectSlot x_parameterCount x_methodGeneric x_specialiser x_tokenKind x_tokenValue x_tokenCount x_argument x_rank x_orderPlace x_frameMethod x_framePlace x_frameToken x_frameOperators x_frameArgument x_operatorKind x_operatorValue x_operatorLeft x_workedOut := by
  obtain ⟨gg, p, t, j, a1, a2, a3, a4, a5, a6, a7, a8, a9, a10, a11, a12, a13, a14, a15, a16, a17, a18⟩ := cm_top hC.2.2.2.2.2.1 h
  obtain ⟨k1, k2, k3, k4⟩ := cm_J_cnt h
  have hd := h.2.2.2.1
  have ho := h.1
  have ho20 := ho.1
  obtain ⟨x1, x2, x3, x4, x5, x6, x7, x8, x9⟩ := cm_item h (cm_vx_t (fun zz => by have z1 : x_tokenKind c = 10 := zz.1; rw [ek] at z1; exact absurd z1 (by decide)))
  obtain ⟨y1, y2, y3, y4, y5, y7, y8, y9⟩ := cm_itemY h
  have hcj : c % 16 = j := by omega
  have hc400 : c < 400 := by omega
  rw [hcj] at y4
  have htk := a12 j a10
  rw [← a11] at htk
  have e3 : ((m, pl, pc, ar, (c, 0, 0, z) :: r) :: K).length = K.length + 1 := rfl
  have e4 : cm_kl (cm_A x_parameterCount x_tokenKind x_tokenValue) ((m, pl, pc, ar, (c, 0, 0, z) :: r) :: K) = cm_kl (cm_A x_parameterCount x_tokenKind x_tokenValue) K + (cm_lf (cm_A x_parameterCount x_tokenKind x_tokenValue) r + ((cm_A x_parameterCount x_tokenKind x_tokenValue) c - 0)) := rfl
  have kn1 : cm_ni (cm_vx x_tokenKind) r ≤ cm_ni cm_al r := cm_ni_le _ _
  have kn2 : cm_nv (cm_vx x_tokenKind) r ≤ cm_nv cm_al r := cm_nv_le _ _
  have kk1 : cm_ko (cm_vx x_tokenKind) K ≤ cm_ko cm_al K := cm_ko_le _ _
  have kk2 : cm_kv (cm_vx x_tokenKind) K ≤ cm_kv cm_al K := cm_kv_le _ _
  have eTX : x_frameToken K.length = nI pc := h.2.2.2.2.2.2.1.1.2.2.1
  unfold cm_fi at hmu htt
  intro n' hn'
  unfold cm_fi at hn'
  have hA : (cm_A x_parameterCount x_tokenKind x_tokenValue) c = 1 := by rw [cm_kind ek]; rfl
  rw [x9] at hwo
  have hwo' : x_workedOut (cm_kv (cm_vx x_tokenKind) K + cm_nv (cm_vx x_tokenKind) r) = v := hwo
  have od1 : vp_updL y_operands ((cm_kv cm_al K + cm_nv cm_al r) + 0) v (cm_kv cm_al K + cm_nv cm_al r) = v := pk_uLs
  have hw : ∀ p : Prop, rl_val no (bs_ci p 0 1) := by
    intro p
    by_cases z : p
    · rw [bs_ct z]; exact Or.inl (show (0 : Int64) = _ by decide)
    · rw [bs_cf z]; exact Or.inl (show (1 : Int64) = _ by decide)
  rw [x8, x9]
  refine mx_cl_T (by omega) (fun P hP => mx_tk_app hd (by omega) (by omega) x1 (q := 11) (w := x_tokenValue c) (by omega) (by omega) (by omega) (by rw [x4, ek]) (by rw [x6, hA]) x5 (mx_ap_is (vc := (cm_kv (cm_vx x_tokenKind) K + cm_nv (cm_vx x_tokenKind) r)) hC.1 ho20 ho.2.1 (by rw [hwo']; exact hv) (by omega) (hP _ _ _ _ _ _ _ _ _ _ _ _ _ _ _ _ _ _ _ _ _ _ _ _ _ _ _ _ _ _ _ _ _ _ _ _ _ _ _ ?_)))
  rw [hwo']
  refine cm_T_val (od' := vp_updL (vp_updL y_operands ((cm_kv cm_al K + cm_nv cm_al r) + 0) v) (cm_kv cm_al K + cm_nv cm_al r) (bs_ci (or_pl x_lineClass x_lineLength (ob_kc x_objectClass no v).toNatClampNeg (x_tokenValue c) = -1) 0 1)) hC ihT h hn hA (hw _) (fun j hj => by rw [pk_uLn (by omega), pk_uLn (by omega)]) ho (by unfold cm_fi; omega) (by unfold cm_fi; omega) (fun post' he => ?_) n' (by unfold cm_fi; omega)
  obtain ⟨n1, n5, hdl⟩ := he
  cases n5 with
  | zero => exact hdl.elim
  | succ n6 =>
    refine hY post' ⟨n1, n6 + 2, ?_⟩
    rw [y8]
    refine my_dl_item (n := n6) hd (by omega) (by omega) (by omega) (by omega) y1 y2 y4 y5 (fun P h0 h1 => ?_)
    rw [← a11, y9]
    refine my_cp_is (hh := (cm_kv cm_al K + cm_nv cm_al r)) hc400 (by omega) (g1 := 1) (by omega) pk_us hC.2.2.2.1 htk hA hC.1 ho20 ho.2.1 (by omega) ek (by rw [od1]; exact hv) (h1 _ _ _ _ _ _ 0 _ _ _ _ _ _ _ _ _ _ _ _ _ _ _ _ _ _ _ _ _ _ _ _ _ _ _ _ _ _ _ _ _ _ _ (cm_kv cm_al K + cm_nv cm_al r) (by omega) ?_)
    rw [pk_uLs, od1]
    exact hdl
theorem cm_T_set {μ no s tt m pl pc c : Nat} {z : Nat → Int64} {v : Int64} {ar : Nat → Int64} {r : List cm_It} {K : List cm_Fr} (hC : cm_C nc no0 ns nd x_lineClass x_lineLength x_methodGeneric x_parameterCount x_specialiser x_tokenKind x_tokenValue x_tokenCount x_isSealed x_classHasSlot x_classSlot x_superDraft y_has y_initial y_draftHas y_draftInitial y_lists y_listLength y_gone y_single y_special y_shownSteps) (ihT : cm_PT D kk nc no0 ns nd x_lineClass x_lineLength x_methodGeneric x_parameterCount x_specialiser x_tokenKind x_tokenValue x_tokenCount x_isSealed x_classHasSlot x_classSlot x_superDraft y_has y_initial y_draftHas y_draftInitial y_lists y_listLength y_gone y_single y_special y_shownSteps μ) (h : cm_J nc (0) ((m, pl, pc, ar, (c, 1, 1, z) :: r)) (K) (s) (no) x_lineClass x_lineLength x_methodGeneric x_parameterCount x_specialiser x_tokenKind x_tokenValue x_tokenCount x_objectClass x_objectHasSlot x_objectSlot x_frameMethod x_framePlace x_frameToken x_frameOperators x_frameArgument x_operatorKind x_operatorValue x_operatorLeft x_workedOut y_slots y_methodAt y_reached y_pc y_opsAt y_arguments y_operator y_got y_operands y_many y_broken y_chosen) (hn : no0 ≤ no) (hv : rl_val no v) (hwo : x_workedOut (cm_kv (cm_vx x_tokenKind) ((m, pl, pc, ar, (c, 1, 1, z) :: r) :: K)) = v) (hmu : cm_fi (cm_A x_parameterCount x_tokenKind x_tokenValue) s ((m, pl, pc, ar, (c, 1, 1, z) :: r) :: K) 1 ≤ μ + 1) (htt : tt + cm_fi (cm_A x_parameterCount x_tokenKind x_tokenValue) s ((m, pl, pc, ar, (c, 1, 1, z) :: r) :: K) 1 ≤ 4000) {nn : Nat} (hnn : nn < 4) (ek : x_tokenKind c = nI 5) (ew : x_tokenValue c = nI nn)
    (hY : ∀ post' : Int32 → SY → Prop, (∃ n9 n5, wY_deliver_5 (cm_Q post' n9) n5 v 1 (nI nc) (nI ns) (nI no) (nI nd) (nI (K.length + 1)) (nI (cm_ko cm_al ((m, pl, pc, ar, (c, 1, 1, z) :: r) :: K))) (nI (cm_kv cm_al ((m, pl, pc, ar, (c, 1, 1, z) :: r) :: K))) 0 (nI s) y_shownSteps (-9223372036854775808) x_lineClass x_lineLength y_has x_isSealed y_initial x_superDraft y_draftHas y_draftInitial y_lists y_listLength y_gone x_objectClass y_slots x_parameterCount x_methodGeneric y_single y_special x_tokenKind x_tokenCount x_tokenValue y_methodAt y_pc y_chosen y_many y_reached y_opsAt y_broken y_arguments y_operands y_operator y_got) → D post') : ∀ n', cm_fi (cm_A x_parameterCount x_tokenKind x_tokenValue) s ((m, pl, pc, ar, (c, 1, 1, z) :: r) :: K) 1 < n' + 1 → wX_call_23 (fun r u' => D (fun r' v' => r' = r ∧ i_Rel kk u' v')) (n' + 1) (nI tt) (nI nc) (nI ns) (nI no) (nI nd) (-3) (nI s) (-9223372036854775808) x_enterGeneric x_enterPlace (nI (K.length + 1)) (nI (cm_ko (cm_vx x_tokenKind) ((m, pl, pc, ar, (c, 1, 1, z) :: r) :: K))) (nI (cm_kv (cm_vx x_tokenKind) ((m, pl, pc, ar, (c, 1, 1, z) :: r) :: K) + 1)) x_lineClass x_lineLength x_isSealed x_classHasSlot x_classSlot x_superDraft x_objectClass x_objectHasSlot x_objectSlot x_parameterCount x_methodGeneric x_specialiser x_tokenKind x_tokenValue x_tokenCount x_argument x_rank x_orderPlace x_frameMethod x_framePlace x_frameToken x_frameOperators x_frameArgument x_operatorKind x_operatorValue x_operatorLeft x_workedOut := by
  obtain ⟨gg, p, t, j, a1, a2, a3, a4, a5, a6, a7, a8, a9, a10, a11, a12, a13, a14, a15, a16, a17, a18⟩ := cm_top hC.2.2.2.2.2.1 h
  obtain ⟨k1, k2, k3, k4⟩ := cm_J_cnt h
  have hd := h.2.2.2.1
  have ho := h.1
  have ho20 := ho.1
  obtain ⟨x1, x2, x3, x4, x5, x6, x7, x8, x9⟩ := cm_item h (cm_vx_t (fun zz => by have z1 : x_tokenKind c = 10 := zz.1; rw [ek] at z1; exact absurd z1 (by decide)))
  obtain ⟨y1, y2, y3, y4, y5, y7, y8, y9⟩ := cm_itemY h
  have hcj : c % 16 = j := by omega
  have hc400 : c < 400 := by omega
  rw [hcj] at y4
  have htk := a12 j a10
  rw [← a11] at htk
  have e3 : ((m, pl, pc, ar, (c, 1, 1, z) :: r) :: K).length = K.length + 1 := rfl
  have e4 : cm_kl (cm_A x_parameterCount x_tokenKind x_tokenValue) ((m, pl, pc, ar, (c, 1, 1, z) :: r) :: K) = cm_kl (cm_A x_parameterCount x_tokenKind x_tokenValue) K + (cm_lf (cm_A x_parameterCount x_tokenKind x_tokenValue) r + ((cm_A x_parameterCount x_tokenKind x_tokenValue) c - 1)) := rfl
  have kn1 : cm_ni (cm_vx x_tokenKind) r ≤ cm_ni cm_al r := cm_ni_le _ _
  have kn2 : cm_nv (cm_vx x_tokenKind) r ≤ cm_nv cm_al r := cm_nv_le _ _
  have kk1 : cm_ko (cm_vx x_tokenKind) K ≤ cm_ko cm_al K := cm_ko_le _ _
  have kk2 : cm_kv (cm_vx x_tokenKind) K ≤ cm_kv cm_al K := cm_kv_le _ _
  have eTX : x_frameToken K.length = nI pc := h.2.2.2.2.2.2.1.1.2.2.1
  unfold cm_fi at hmu htt
  intro n' hn'
  unfold cm_fi at hn'
  have hA : (cm_A x_parameterCount x_tokenKind x_tokenValue) c = 2 := by rw [cm_kind ek]; rfl
  rw [x9] at hwo
  have hx0 : x_workedOut (cm_kv (cm_vx x_tokenKind) K + cm_nv (cm_vx x_tokenKind) r) = z 0 := by
    have := x7 0 (by omega)
    rw [Nat.add_zero] at this
    exact this
  have hy0 : y_operands (cm_kv cm_al K + cm_nv cm_al r) = z 0 := by
    have := y7 0 (by omega)
    rw [Nat.add_zero] at this
    exact this
  have hz0 := a16 0 (by omega)
  have od1 : vp_updL y_operands ((cm_kv cm_al K + cm_nv cm_al r) + 1) v ((cm_kv cm_al K + cm_nv cm_al r) + 1) = v := pk_uLs
  have od0 : vp_updL y_operands ((cm_kv cm_al K + cm_nv cm_al r) + 1) v (cm_kv cm_al K + cm_nv cm_al r) = z 0 := by rw [pk_uLn (by omega)]; exact hy0
  rw [x8, x9]
  refine mx_cl_T (by omega) (fun P hP => mx_tk_app hd (by omega) (by omega) x1 (q := 5) (w := nI nn) (by omega) (by omega) (by omega) (by rw [x4, ek]) (by rw [x6, hA]) (by rw [x5, ew]) (mx_ap_set (b := (cm_kv (cm_vx x_tokenKind) K + cm_nv (cm_vx x_tokenKind) r)) ho20 hnn (by omega) (fun hE => hP _ _ _ _ _ _ _ _ _ _ _ _ _ _ _ _ _ _ _ _ _ _ _ _ _ _ _ _ _ _ _ _ _ _ _ _ _ _ _ ?_) (fun k hk e1 e2 => hP _ _ _ _ _ _ _ _ _ _ _ _ _ _ _ _ _ _ _ _ _ _ _ _ _ _ _ _ _ _ _ _ _ _ _ _ _ _ _ ?_)))
  · rw [hx0] at hE
    refine cm_halt (y_depth := nI (K.length + 1)) (y_ops := nI (cm_ko cm_al K + cm_ni cm_al r)) (y_held := nI (cm_kv cm_al K + cm_nv cm_al r)) (y_shownSteps := y_shownSteps) (y_has := y_has) (y_initial := y_initial) (y_draftHas := y_draftHas) (y_draftInitial := y_draftInitial) (y_lists := y_lists) (y_listLength := y_listLength) (y_gone := y_gone) (y_slots := y_slots) (y_single := y_single) (y_special := y_special) (y_methodAt := y_methodAt) (y_pc := y_pc) (y_chosen := y_chosen) (y_many := y_many) (y_reached := y_reached) (y_opsAt := y_opsAt) (y_broken := y_broken) (y_arguments := y_arguments) (y_operands := vp_updL (vp_updL y_operands ((cm_kv cm_al K + cm_nv cm_al r) + 1) v) (cm_kv cm_al K + cm_nv cm_al r) v) (y_operator := y_operator) (y_got := upd y_got (cm_ko cm_al K + cm_ni cm_al r) (nI 2)) (F := 4) (by decide) (by decide) hC hn ho (fun post' he => ?_) n' (by omega)
    obtain ⟨n1, hcl⟩ := he
    refine hY post' ⟨n1, 0 + 2, ?_⟩
    rw [y8]
    refine my_dl_item (n := 0) hd (by omega) (by omega) (by omega) (by omega) y1 y2 y4 y5 (fun P h0 h1 => ?_)
    rw [← a11, y9]
    refine my_cp_two (hh := (cm_kv cm_al K + cm_nv cm_al r)) hc400 (by omega) (g1 := 2) (by omega) pk_us hC.2.2.2.1 htk hA (q := 5) (by omega) (by omega) ek (fun Q hQ => ?_)
    rw [od1]
    refine my_two (no := no) (n := nn) ho20 (by omega) (by omega) (fun _ => ⟨hnn, ew⟩) (by rw [od0]; exact hz0) (fun zz => by omega) (fun _ _ => hQ _ (h1 _ _ _ _ _ _ 0 _ _ _ _ _ _ _ _ _ _ _ _ _ _ _ _ _ _ _ _ _ _ _ _ _ _ _ _ _ _ _ _ _ _ _ (cm_kv cm_al K + cm_nv cm_al r) (by omega) (my_dl_fault (by decide) hcl))) (fun _ k hk e1 e2 => ?_) (fun zz zz2 => by omega) (fun zz zz2 => by omega) rfl
    rw [od0] at e1
    rcases ob_sl ho hk hnn with ⟨_, z2⟩ | ⟨z1, _⟩
    · exact absurd z2 e2
    · exact absurd ⟨k, hk, e1, z1⟩ hE
  · rw [hx0] at e1
    rcases ob_sl ho hk hnn with ⟨z1, _⟩ | ⟨z1, z2, z3, z4⟩
    · exact absurd z1 e2
    · rw [hwo]
      refine cm_T_val (od' := vp_updL (vp_updL y_operands ((cm_kv cm_al K + cm_nv cm_al r) + 1) v) (cm_kv cm_al K + cm_nv cm_al r) v) (SL' := vp_updL y_slots (4 * k + nn) v) hC ihT h hn hA hv (fun j hj => by rw [pk_uLn (by omega), pk_uLn (by omega)]) (ob_set ho hk hnn z1 hv) (by unfold cm_fi; omega) (by unfold cm_fi; omega) (fun post' he => ?_) n' (by unfold cm_fi; omega)
      obtain ⟨n1, n5, hdl⟩ := he
      cases n5 with
      | zero => exact hdl.elim
      | succ n6 =>
        refine hY post' ⟨n1, n6 + 2, ?_⟩
        rw [y8]
        refine my_dl_item (n := n6) hd (by omega) (by omega) (by omega) (by omega) y1 y2 y4 y5 (fun P h0 h1 => ?_)
        rw [← a11, y9]
        refine my_cp_two (hh := (cm_kv cm_al K + cm_nv cm_al r)) hc400 (by omega) (g1 := 2) (by omega) pk_us hC.2.2.2.1 htk hA (q := 5) (by omega) (by omega) ek (fun Q hQ => ?_)
        rw [od1]
        refine my_two (no := no) (n := nn) ho20 (by omega) (by omega) (fun _ => ⟨hnn, ew⟩) (by rw [od0]; exact hz0) (fun zz => by omega) (fun _ hE => ?_) (fun _ k' hk' e1' e2' => ?_) (fun zz zz2 => by omega) (fun zz zz2 => by omega) rfl
        · unfold cm_no at hE
          rw [od0] at hE
          exact absurd ⟨k, hk, e1, z2⟩ hE
        · rw [od0, e1] at e1'
          have ekk := ob_inj (by omega) (by omega) e1'
          subst ekk
          refine hQ _ (h1 _ _ _ _ _ _ 0 _ _ _ _ _ _ _ _ _ _ _ _ _ _ _ _ _ _ _ _ _ _ _ _ _ _ _ _ _ _ _ _ _ _ _ (cm_kv cm_al K + cm_nv cm_al r) (by omega) ?_)
          rw [pk_uLs]
          exact hdl
theorem cm_T_int {μ no s tt m pl pc c : Nat} {z : Nat → Int64} {v : Int64} {ar : Nat → Int64} {r : List cm_It} {K : List cm_Fr} (hC : cm_C nc no0 ns nd x_lineClass x_lineLength x_methodGeneric x_parameterCount x_specialiser x_tokenKind x_tokenValue x_tokenCount x_isSealed x_classHasSlot x_classSlot x_superDraft y_has y_initial y_draftHas y_draftInitial y_lists y_listLength y_gone y_single y_special y_shownSteps) (ihT : cm_PT D kk nc no0 ns nd x_lineClass x_lineLength x_methodGeneric x_parameterCount x_specialiser x_tokenKind x_tokenValue x_tokenCount x_isSealed x_classHasSlot x_classSlot x_superDraft y_has y_initial y_draftHas y_draftInitial y_lists y_listLength y_gone y_single y_special y_shownSteps μ) (h : cm_J nc (0) ((m, pl, pc, ar, (c, 1, 1, z) :: r)) (K) (s) (no) x_lineClass x_lineLength x_methodGeneric x_parameterCount x_specialiser x_tokenKind x_tokenValue x_tokenCount x_objectClass x_objectHasSlot x_objectSlot x_frameMethod x_framePlace x_frameToken x_frameOperators x_frameArgument x_operatorKind x_operatorValue x_operatorLeft x_workedOut y_slots y_methodAt y_reached y_pc y_opsAt y_arguments y_operator y_got y_operands y_many y_broken y_chosen) (hn : no0 ≤ no) (hv : rl_val no v) (hwo : x_workedOut (cm_kv (cm_vx x_tokenKind) ((m, pl, pc, ar, (c, 1, 1, z) :: r) :: K)) = v) (hmu : cm_fi (cm_A x_parameterCount x_tokenKind x_tokenValue) s ((m, pl, pc, ar, (c, 1, 1, z) :: r) :: K) 1 ≤ μ + 1) (htt : tt + cm_fi (cm_A x_parameterCount x_tokenKind x_tokenValue) s ((m, pl, pc, ar, (c, 1, 1, z) :: r) :: K) 1 ≤ 4000) {q : Nat} (hq6 : 6 ≤ q) (hq8 : q ≤ 8) (ek : x_tokenKind c = nI q)
    (hY : ∀ post' : Int32 → SY → Prop, (∃ n9 n5, wY_deliver_5 (cm_Q post' n9) n5 v 1 (nI nc) (nI ns) (nI no) (nI nd) (nI (K.length + 1)) (nI (cm_ko cm_al ((m, pl, pc, ar, (c, 1, 1, z) :: r) :: K))) (nI (cm_kv cm_al ((m, pl, pc, ar, (c, 1, 1, z) :: r) :: K))) 0 (nI s) y_shownSteps (-9223372036854775808) x_lineClass x_lineLength y_has x_isSealed y_initial x_superDraft y_draftHas y_draftInitial y_lists y_listLength y_gone x_objectClass y_slots x_parameterCount x_methodGeneric y_single y_special x_tokenKind x_tokenCount x_tokenValue y_methodAt y_pc y_chosen y_many y_reached y_opsAt y_broken y_arguments y_operands y_operator y_got) → D post') : ∀ n', cm_fi (cm_A x_parameterCount x_tokenKind x_tokenValue) s ((m, pl, pc, ar, (c, 1, 1, z) :: r) :: K) 1 < n' + 1 → wX_call_23 (fun r u' => D (fun r' v' => r' = r ∧ i_Rel kk u' v')) (n' + 1) (nI tt) (nI nc) (nI ns) (nI no) (nI nd) (-3) (nI s) (-9223372036854775808) x_enterGeneric x_enterPlace (nI (K.length + 1)) (nI (cm_ko (cm_vx x_tokenKind) ((m, pl, pc, ar, (c, 1, 1, z) :: r) :: K))) (nI (cm_kv (cm_vx x_tokenKind) ((m, pl, pc, ar, (c, 1, 1, z) :: r) :: K) + 1)) x_lineClass x_lineLength x_isSealed x_classHasSlot x_classSlot x_superDraft x_objectClass x_objectHasSlot x_objectSlot x_parameterCount x_methodGeneric x_specialiser x_tokenKind x_tokenValue x_tokenCount x_argument x_rank x_orderPlace x_frameMethod x_framePlace x_frameToken x_frameOperators x_frameArgument x_operatorKind x_operatorValue x_operatorLeft x_workedOut := by
  have hvis : (cm_vx x_tokenKind) (c, 1, 1, z) = true := cm_vx_t (fun zz => by have z1 : x_tokenKind c = nI 10 := zz.1; rw [ek] at z1; have := bs_inj (by omega) (by omega) z1; omega)
  obtain ⟨gg, p, t, j, a1, a2, a3, a4, a5, a6, a7, a8, a9, a10, a11, a12, a13, a14, a15, a16, a17, a18⟩ := cm_top hC.2.2.2.2.2.1 h
  obtain ⟨k1, k2, k3, k4⟩ := cm_J_cnt h
  have hd := h.2.2.2.1
  have ho := h.1
  have ho20 := ho.1
  obtain ⟨x1, x2, x3, x4, x5, x6, x7, x8, x9⟩ := cm_item h hvis
  obtain ⟨y1, y2, y3, y4, y5, y7, y8, y9⟩ := cm_itemY h
  have hcj : c % 16 = j := by omega
  have hc400 : c < 400 := by omega
  rw [hcj] at y4
  have htk := a12 j a10
  rw [← a11] at htk
  have e3 : ((m, pl, pc, ar, (c, 1, 1, z) :: r) :: K).length = K.length + 1 := rfl
  have e4 : cm_kl (cm_A x_parameterCount x_tokenKind x_tokenValue) ((m, pl, pc, ar, (c, 1, 1, z) :: r) :: K) = cm_kl (cm_A x_parameterCount x_tokenKind x_tokenValue) K + (cm_lf (cm_A x_parameterCount x_tokenKind x_tokenValue) r + ((cm_A x_parameterCount x_tokenKind x_tokenValue) c - 1)) := rfl
  have kn1 : cm_ni (cm_vx x_tokenKind) r ≤ cm_ni cm_al r := cm_ni_le _ _
  have kn2 : cm_nv (cm_vx x_tokenKind) r ≤ cm_nv cm_al r := cm_nv_le _ _
  have kk1 : cm_ko (cm_vx x_tokenKind) K ≤ cm_ko cm_al K := cm_ko_le _ _
  have kk2 : cm_kv (cm_vx x_tokenKind) K ≤ cm_kv cm_al K := cm_kv_le _ _
  have eTX : x_frameToken K.length = nI pc := h.2.2.2.2.2.2.1.1.2.2.1
  unfold cm_fi at hmu htt
  intro n' hn'
  unfold cm_fi at hn'
  have hA : (cm_A x_parameterCount x_tokenKind x_tokenValue) c = 2 := by
    rw [cm_kind ek]
    have hs : q = 6 ∨ q = 7 ∨ q = 8 := by omega
    rcases hs with rfl | rfl | rfl
    · rfl
    · rfl
    · rfl
  rw [x9] at hwo
  have hx0 : x_workedOut (cm_kv (cm_vx x_tokenKind) K + cm_nv (cm_vx x_tokenKind) r) = z 0 := by
    have := x7 0 (by omega)
    rw [Nat.add_zero] at this
    exact this
  have hy0 : y_operands (cm_kv cm_al K + cm_nv cm_al r) = z 0 := by
    have := y7 0 (by omega)
    rw [Nat.add_zero] at this
    exact this
  have hz0 := a16 0 (by omega)
  have od1 : vp_updL y_operands ((cm_kv cm_al K + cm_nv cm_al r) + 1) v ((cm_kv cm_al K + cm_nv cm_al r) + 1) = v := pk_uLs
  have od0 : vp_updL y_operands ((cm_kv cm_al K + cm_nv cm_al r) + 1) v (cm_kv cm_al K + cm_nv cm_al r) = z 0 := by rw [pk_uLn (by omega)]; exact hy0
  have hw : ∀ a b : Int32, rl_val no (cm_int q a b) := by
    intro a b
    unfold cm_int
    by_cases z6 : q = 6
    · rw [bs_ct z6]; exact Or.inl (mk_int _)
    · rw [bs_cf z6]
      by_cases z7 : q = 7
      · rw [bs_ct z7]; exact Or.inl (mk_int _)
      · rw [bs_cf z7]
        by_cases z8 : b ≤ a
        · rw [bs_ct z8]; exact Or.inl (show (0 : Int64) = _ by decide)
        · rw [bs_cf z8]; exact Or.inl (show (1 : Int64) = _ by decide)
  rw [x8, x9]
  refine mx_cl_T (by omega) (fun P hP => mx_tk_app hd (by omega) (by omega) x1 (q := q) (w := x_tokenValue c) (by omega) (by omega) (by omega) (by rw [x4, ek]) (by rw [x6, hA]) x5 (mx_ap_int (b := (cm_kv (cm_vx x_tokenKind) K + cm_nv (cm_vx x_tokenKind) r)) hq6 hq8 (by omega) (fun hE => hP _ _ _ _ _ _ _ _ _ _ _ _ _ _ _ _ _ _ _ _ _ _ _ _ _ _ _ _ _ _ _ _ _ _ _ _ _ _ _ ?_) (fun i1 i2 => hP _ _ _ _ _ _ _ _ _ _ _ _ _ _ _ _ _ _ _ _ _ _ _ _ _ _ _ _ _ _ _ _ _ _ _ _ _ _ _ ?_)))
  · rw [hx0, hwo] at hE
    have hEy : ∀ post' n1, (∀ od2, cm_Q post' n1 (nI nc, nI ns, nI no, nI nd, nI (K.length + 1), nI (cm_ko cm_al K + cm_ni cm_al r), nI (cm_kv cm_al K + cm_nv cm_al r), 5, nI s, y_shownSteps, -9223372036854775808, x_lineClass, x_lineLength, y_has, x_isSealed, y_initial, x_superDraft, y_draftHas, y_draftInitial, y_lists, y_listLength, y_gone, x_objectClass, y_slots, x_parameterCount, x_methodGeneric, y_single, y_special, x_tokenKind, x_tokenCount, x_tokenValue, y_methodAt, y_pc, y_chosen, y_many, y_reached, y_opsAt, y_broken, y_arguments, od2, y_operator, upd y_got (cm_ko cm_al K + cm_ni cm_al r) (nI 2))) → D post' := by
      intro post' n1 hcl
      refine hY post' ⟨n1, 0 + 2, ?_⟩
      rw [y8]
      refine my_dl_item (n := 0) hd (by omega) (by omega) (by omega) (by omega) y1 y2 y4 y5 (fun P h0 h1 => ?_)
      rw [← a11, y9]
      refine my_cp_two (hh := (cm_kv cm_al K + cm_nv cm_al r)) hc400 (by omega) (g1 := 2) (by omega) pk_us hC.2.2.2.1 htk hA (q := q) (by omega) (by omega) ek (fun Q hQ => ?_)
      rw [od1]
      refine my_two (no := no) (n := 0) ho20 (by omega) (by omega) (fun zz => by omega) (by rw [od0]; exact hz0) (fun zz => by omega) (fun zz => by omega) (fun zz => by omega) (fun _ _ _ od2 => hQ _ (h1 _ _ _ _ _ _ 0 _ _ _ _ _ _ _ _ _ _ _ _ _ _ _ _ _ _ _ _ _ _ _ _ _ _ _ _ _ _ _ _ _ _ _ (cm_kv cm_al K + cm_nv cm_al r) (by omega) (my_dl_fault (by decide) (hcl od2)))) (fun _ _ i1 i2 => ?_) rfl
      rw [od0] at i1
      exact absurd ⟨i1, i2⟩ hE
    obtain ⟨n2, rfl⟩ : ∃ n2, n' = n2 + 1 := ⟨n' - 1, by omega⟩
    exact mx_cl_end (by decide) (hEy _ 1 (fun od2 => my_cl_fault (n := 0) (by decide) ⟨rfl, cm_done hC hn ho⟩))
  · rw [hx0] at i1
    rw [hwo] at i2
    rw [hx0, hwo]
    refine cm_T_val (od' := vp_updL (vp_updL y_operands ((cm_kv cm_al K + cm_nv cm_al r) + 1) v) (cm_kv cm_al K + cm_nv cm_al r) (cm_int q (z 0).toInt32 v.toInt32)) hC ihT h hn hA (hw _ _) (fun j hj => by rw [pk_uLn (by omega), pk_uLn (by omega)]) ho (by unfold cm_fi; omega) (by unfold cm_fi; omega) (fun post' he => ?_) n' (by unfold cm_fi; omega)
    obtain ⟨n1, n5, hdl⟩ := he
    cases n5 with
    | zero => exact hdl.elim
    | succ n6 =>
      refine hY post' ⟨n1, n6 + 2, ?_⟩
      rw [y8]
      refine my_dl_item (n := n6) hd (by omega) (by omega) (by omega) (by omega) y1 y2 y4 y5 (fun P h0 h1 => ?_)
      rw [← a11, y9]
      refine my_cp_two (hh := (cm_kv cm_al K + cm_nv cm_al r)) hc400 (by omega) (g1 := 2) (by omega) pk_us hC.2.2.2.1 htk hA (q := q) (by omega) (by omega) ek (fun Q hQ => ?_)
      rw [od1]
      refine my_two (no := no) (n := 0) ho20 (by omega) (by omega) (fun zz => by omega) (by rw [od0]; exact hz0) (fun zz => by omega) (fun zz => by omega) (fun zz => by omega) (fun _ _ hE => ?_) (fun _ _ _ _ => ?_) rfl
      · rw [od0] at hE
        exact absurd ⟨i1, i2⟩ hE
      · refine hQ _ (h1 _ _ _ _ _ _ 0 _ _ _ _ _ _ _ _ _ _ _ _ _ _ _ _ _ _ _ _ _ _ _ _ _ _ _ _ _ _ _ _ _ _ _ (cm_kv cm_al K + cm_nv cm_al r) (by omega) ?_)
        rw [pk_uLs, od0]
        exact hdl
end
end
section
/-! the simulation: CALL; all together -/
section
variable {x_classCount : Int32} {x_superCount : Int32} {x_objectCount : Int32} {x_draftSpecialCount : Int32} {x_state : Int32} {x_stepCount : Int32} {x_latestValue : Int64} {x_enterGeneric : Int32} {x_enterPlace : Int32} {x_frameCount : Int32} {x_operatorCount : Int32} {x_valueCount : Int32} {x_lineClass : Nat → Int32} {x_lineLength : Nat → Int32} {x_isSealed : Nat → Int32} {x_classHasSlot : Nat → Int32} {x_classSlot : Nat → Int32} {x_superDraft : Nat → Int32} {x_objectClass : Nat → Int32} {x_objectHasSlot : Nat → Int32} {x_objectSlot : Nat → Int64} {x_parameterCount : Nat → Int32} {x_methodGeneric : Nat → Int32} {x_specialiser : Nat → Int64} {x_tokenKind : Nat → Int32} {x_tokenValue : Nat → Int32} {x_tokenCount : Nat → Int32} {x_argument : Nat → Int64} {x_rank : Nat → Int32} {x_orderPlace : Nat → Int32} {x_frameMethod : Nat → Int32} {x_framePlace : Nat → Int32} {x_frameToken : Nat → Int32} {x_frameOperators : Nat → Int32} {x_frameArgument : Nat → Int64} {x_operatorKind : Nat → Int32} {x_operatorValue : Nat → Int32} {x_operatorLeft : Nat → Int32} {x_workedOut : Nat → Int64} {y_classes : Int32} {y_supers : Int32} {y_objects : Int32} {y_specials : Int32} {y_depth : Int32} {y_ops : Int32} {y_held : Int32} {y_fault : Int32} {y_steps : Int32} {y_shownSteps : Int32} {y_result : Int64} {y_line : Nat → Int32} {y_lineLength : Nat → Int32} {y_has : Nat → Int32} {y_sealed : Nat → Int32} {y_initial : Nat → Int32} {y_drafted : Nat → Int32} {y_draftHas : Nat → Int32} {y_draftInitial : Nat → Int32} {y_lists : Nat → Int32} {y_listLength : Nat → Int32} {y_gone : Nat → Int32} {y_classOfObject : Nat → Int32} {y_slots : Nat → Int64} {y_parameters : Nat → Int32} {y_generic : Nat → Int32} {y_single : Nat → Int32} {y_special : Nat → Int64} {y_kind : Nat → Int32} {y_tokens : Nat → Int32} {y_with : Nat → Int32} {y_methodAt : Nat → Int32} {y_pc : Nat → Int32} {y_chosen : Nat → Int32} {y_many : Nat → Int32} {y_reached : Nat → Int32} {y_opsAt : Nat → Int32} {y_broken : Nat → Int32} {y_arguments : Nat → Int64} {y_operands : Nat → Int64} {y_operator : Nat → Int32} {y_got : Nat → Int32} {D : (Int32 → SY → Prop) → Prop} {kk nc no0 ns nd : Nat}
theorem cm_T_call {μ no s tt m pl pc c g n : Nat} {z : Nat → Int64} {v : Int64} {ar : Nat → Int64} {r : List cm_It} {K : List cm_Fr} (hC : cm_C nc no0 ns nd x_lineClass x_lineLength x_methodGeneric x_parameterCount x_specialiser x_tokenKind x_tokenValue x_tokenCount x_isSealed x_classHasSlot x_classSlot x_superDraft y_has y_initial y_draftHas y_draftInitial y_lists y_listLength y_gone y_single y_special y_shownSteps) (ihW : cm_PW D kk nc no0 ns nd x_lineClass x_lineLength x_methodGeneric x_parameterCount x_specialiser x_tokenKind x_tokenValue x_tokenCount x_isSealed x_classHasSlot x_classSlot x_superDraft y_has y_initial y_draftHas y_draftInitial y_lists y_listLength y_gone y_single y_special y_shownSteps μ) (h : cm_J nc (0) ((m, pl, pc, ar, (c, g, n, z) :: r)) (K) (s) (no) x_lineClass x_lineLength x_methodGeneric x_parameterCount x_specialiser x_tokenKind x_tokenValue x_tokenCount x_objectClass x_objectHasSlot x_objectSlot x_frameMethod x_framePlace x_frameToken x_frameOperators x_frameArgument x_operatorKind x_operatorValue x_operatorLeft x_workedOut y_slots y_methodAt y_reached y_pc y_opsAt y_arguments y_operator y_got y_operands y_many y_broken y_chosen) (hn : no0 ≤ no) (hv : rl_val no v) (hwo : x_workedOut (cm_kv (cm_vx x_tokenKind) ((m, pl, pc, ar, (c, g, n, z) :: r) :: K)) = v) (hmu : cm_fi (cm_A x_parameterCount x_tokenKind x_tokenValue) s ((m, pl, pc, ar, (c, g, n, z) :: r) :: K) 1 ≤ μ + 1) (htt : tt + cm_fi (cm_A x_parameterCount x_tokenKind x_tokenValue) s ((m, pl, pc, ar, (c, g, n, z) :: r) :: K) 1 ≤ 4000) {g2 p2 : Nat} (hg2 : g2 < 5) (hp21 : 1 ≤ p2) (hp23 : p2 ≤ 3) (ep2 : x_parameterCount g2 = nI p2) (ek : x_tokenKind c = nI 3) (ew : x_tokenValue c = nI g2) (hA : (cm_A x_parameterCount x_tokenKind x_tokenValue) c = p2) (hgp : g + 1 = p2)
    (hY : ∀ post' : Int32 → SY → Prop, (∃ n9 n5, wY_deliver_5 (cm_Q post' n9) n5 v 1 (nI nc) (nI ns) (nI no) (nI nd) (nI (K.length + 1)) (nI (cm_ko cm_al ((m, pl, pc, ar, (c, g, n, z) :: r) :: K))) (nI (cm_kv cm_al ((m, pl, pc, ar, (c, g, n, z) :: r) :: K))) 0 (nI s) y_shownSteps (-9223372036854775808) x_lineClass x_lineLength y_has x_isSealed y_initial x_superDraft y_draftHas y_draftInitial y_lists y_listLength y_gone x_objectClass y_slots x_parameterCount x_methodGeneric y_single y_special x_tokenKind x_tokenCount x_tokenValue y_methodAt y_pc y_chosen y_many y_reached y_opsAt y_broken y_arguments y_operands y_operator y_got) → D post') : ∀ n', cm_fi (cm_A x_parameterCount x_tokenKind x_tokenValue) s ((m, pl, pc, ar, (c, g, n, z) :: r) :: K) 1 < n' + 1 → wX_call_23 (fun r u' => D (fun r' v' => r' = r ∧ i_Rel kk u' v')) (n' + 1) (nI tt) (nI nc) (nI ns) (nI no) (nI nd) (-3) (nI s) (-9223372036854775808) x_enterGeneric x_enterPlace (nI (K.length + 1)) (nI (cm_ko (cm_vx x_tokenKind) ((m, pl, pc, ar, (c, g, n, z) :: r) :: K))) (nI (cm_kv (cm_vx x_tokenKind) ((m, pl, pc, ar, (c, g, n, z) :: r) :: K) + 1)) x_lineClass x_lineLength x_isSealed x_classHasSlot x_classSlot x_superDraft x_objectClass x_objectHasSlot x_objectSlot x_parameterCount x_methodGeneric x_specialiser x_tokenKind x_tokenValue x_tokenCount x_argument x_rank x_orderPlace x_frameMethod x_framePlace x_frameToken x_frameOperators x_frameArgument x_operatorKind x_operatorValue x_operatorLeft x_workedOut := by
  obtain ⟨gg, p, t, j, a1, a2, a3, a4, a5, a6, a7, a8, a9, a10, a11, a12, a13, a14, a15, a16, a17, a18⟩ := cm_top hC.2.2.2.2.2.1 h
  obtain ⟨k1, k2, k3, k4⟩ := cm_J_cnt h
  have hd := h.2.2.2.1
  have ho := h.1
  have ho20 := ho.1
  obtain ⟨x1, x2, x3, x4, x5, x6, x7, x8, x9⟩ := cm_item h (cm_vx_t (fun zz => by have z1 : x_tokenKind c = 10 := zz.1; rw [ek] at z1; exact absurd z1 (by decide)))
  obtain ⟨y1, y2, y3, y4, y5, y7, y8, y9⟩ := cm_itemY h
  have hcj : c % 16 = j := by omega
  have hc400 : c < 400 := by omega
  rw [hcj] at y4
  have htk := a12 j a10
  rw [← a11] at htk
  have e3 : ((m, pl, pc, ar, (c, g, n, z) :: r) :: K).length = K.length + 1 := rfl
  have e4 : cm_kl (cm_A x_parameterCount x_tokenKind x_tokenValue) ((m, pl, pc, ar, (c, g, n, z) :: r) :: K) = cm_kl (cm_A x_parameterCount x_tokenKind x_tokenValue) K + (cm_lf (cm_A x_parameterCount x_tokenKind x_tokenValue) r + ((cm_A x_parameterCount x_tokenKind x_tokenValue) c - g)) := rfl
  have kn1 : cm_ni (cm_vx x_tokenKind) r ≤ cm_ni cm_al r := cm_ni_le _ _
  have kn2 : cm_nv (cm_vx x_tokenKind) r ≤ cm_nv cm_al r := cm_nv_le _ _
  have kk1 : cm_ko (cm_vx x_tokenKind) K ≤ cm_ko cm_al K := cm_ko_le _ _
  have kk2 : cm_kv (cm_vx x_tokenKind) K ≤ cm_kv cm_al K := cm_kv_le _ _
  have eTX : x_frameToken K.length = nI pc := h.2.2.2.2.2.2.1.1.2.2.1
  unfold cm_fi at hmu htt
  intro n' hn'
  unfold cm_fi at hn'
  have eng : n = g := a15 (by rw [ek]; decide)
  rw [x9] at hwo
  have har : ∀ q, q < p2 → x_workedOut ((cm_kv (cm_vx x_tokenKind) K + cm_nv (cm_vx x_tokenKind) r) + q) = (if q = n then v else z q) := by
    intro q hq
    by_cases e : q = n
    · rw [if_pos e, e]; exact hwo
    · rw [if_neg e]; exact x7 q (by omega)
  have hay : ∀ q, q < p2 → vp_updL y_operands ((cm_kv cm_al K + cm_nv cm_al r) + n) v ((cm_kv cm_al K + cm_nv cm_al r) + q) = (if q = n then v else z q) := by
    intro q hq
    by_cases e : q = n
    · rw [if_pos e, e, pk_uLs]
    · rw [if_neg e, pk_uLn (by omega)]; exact y7 q (by omega)
  have hvv : ∀ q, q < p2 → rl_val no (if q = n then v else z q) := by
    intro q hq
    by_cases e : q = n
    · rw [if_pos e]; exact hv
    · rw [if_neg e]; exact a16 q (by omega)
  rw [hA, show cm_nd (cm_A x_parameterCount x_tokenKind x_tokenValue) r + (p2 - g - 1) + 0 = cm_nd (cm_A x_parameterCount x_tokenKind x_tokenValue) r + 0 by omega] at a17
  have p1 : cm_kl (cm_A x_parameterCount x_tokenKind x_tokenValue) ((m, pl, pc, ar, r) :: K) = cm_kl (cm_A x_parameterCount x_tokenKind x_tokenValue) K + cm_lf (cm_A x_parameterCount x_tokenKind x_tokenValue) r := rfl
  have p2' : ((m, pl, pc, ar, r) :: K).length = K.length + 1 := rfl
  have hJ := cm_mv_pop (x := 0) (pc' := pc) (fT' := x_frameToken) (pC' := y_pc) (oL' := upd x_operatorLeft (cm_ko (cm_vx x_tokenKind) K + cm_ni (cm_vx x_tokenKind) r) (nI 0)) (wo' := x_workedOut) (go' := upd y_got (cm_ko cm_al K + cm_ni cm_al r) (nI (g + 1))) (od' := vp_updL y_operands ((cm_kv cm_al K + cm_nv cm_al r) + n) v) h (by omega) a8 a5 a9 a17 eTX y3 (fun _ _ => rfl) (fun _ _ => rfl) (fun j hj => pk_uLn (by omega)) (fun _ _ => rfl) (fun j hj => pk_un (by omega)) (fun j hj => pk_un (by omega))
  have hV := cm_JV hJ
  rw [x8, x9, show (cm_kv (cm_vx x_tokenKind) K + cm_nv (cm_vx x_tokenKind) r) + n + 1 = (cm_kv (cm_vx x_tokenKind) K + cm_nv (cm_vx x_tokenKind) r) + p2 by omega]
  refine mx_cl_T (by omega) (fun P hP => mx_tk_app hd (by omega) (by omega) x1 (q := 3) (w := nI g2) (by omega) (by omega) (by omega) (by rw [x4, ek]) (by rw [x6, hA]; exact congrArg nI (by omega)) (by rw [x5, ew]) (mx_ap_call (b := (cm_kv (cm_vx x_tokenKind) K + cm_nv (cm_vx x_tokenKind) r)) hg2 hp23 (by omega) ep2 (fun ag hag => hP _ _ _ _ _ _ _ _ _ _ _ _ _ _ _ _ _ _ _ _ _ _ _ _ _ _ _ _ _ _ _ _ _ _ _ _ _ _ _ ?_)))
  refine cm_E_call (y_shownSteps := y_shownSteps) (y_has := y_has) (y_initial := y_initial) (y_draftHas := y_draftHas) (y_draftInitial := y_draftInitial) (y_lists := y_lists) (y_listLength := y_listLength) (y_gone := y_gone) (y_slots := y_slots) (y_single := y_single) (y_special := y_special) (y_methodAt := y_methodAt) (y_pc := y_pc) (y_chosen := y_chosen) (y_many := y_many) (y_reached := y_reached) (y_opsAt := y_opsAt) (y_broken := y_broken) (y_arguments := y_arguments) (y_operands := vp_updL y_operands ((cm_kv cm_al K + cm_nv cm_al r) + n) v) (y_operator := y_operator) (y_got := upd y_got (cm_ko cm_al K + cm_ni cm_al r) (nI (g + 1))) (K := (m, pl, pc, ar, r) :: K) (tt := tt + 1) (ar := fun q => if q = n then v else z q) (ag' := cm_ag y_arguments (vp_updL y_operands ((cm_kv cm_al K + cm_nv cm_al r) + n) v) (K.length + 1) (cm_kv cm_al K + cm_nv cm_al r) p2) hC ihW hV hn hg2 hp21 hp23 ep2 hvv (fun q hq => by rw [hag q hq, har q hq]) (fun q hq => ?_) (fun j hj => cm_ag_n hj) (by unfold cm_fi; omega) (by unfold cm_fi; omega) (fun post' he => ?_) n' (by unfold cm_fi; omega)
  · rw [p2', cm_ag_k hp23 hq, hay q hq]
  · obtain ⟨n1, hen⟩ := he
    refine hY post' ⟨n1, 0 + 2, ?_⟩
    rw [y8]
    refine my_dl_item (n := 0) hd (by omega) (by omega) (by omega) (by omega) y1 y2 y4 y5 (fun P h0 h1 => ?_)
    rw [← a11, y9, show (cm_kv cm_al K + cm_nv cm_al r) + n + 1 = (cm_kv cm_al K + cm_nv cm_al r) + p2 by omega]
    refine my_cp_call (hh := (cm_kv cm_al K + cm_nv cm_al r)) (d := K.length + 1) (g := g2) (p := p2) hc400 (by omega) hp21 hp23 (by rw [hgp]; exact pk_us) hC.2.2.2.1 htk hA (by omega) (by omega) ek ew (fun Q hQ => ?_)
    exact hen Q (fun u hu => hQ u (h0 u hu))
theorem cm_Tstep {μ : Nat} (hC : cm_C nc no0 ns nd x_lineClass x_lineLength x_methodGeneric x_parameterCount x_specialiser x_tokenKind x_tokenValue x_tokenCount x_isSealed x_classHasSlot x_classSlot x_superDraft y_has y_initial y_draftHas y_draftInitial y_lists y_listLength y_gone y_single y_special y_shownSteps) (ihW : cm_PW D kk nc no0 ns nd x_lineClass x_lineLength x_methodGeneric x_parameterCount x_specialiser x_tokenKind x_tokenValue x_tokenCount x_isSealed x_classHasSlot x_classSlot x_superDraft y_has y_initial y_draftHas y_draftInitial y_lists y_listLength y_gone y_single y_special y_shownSteps μ) (ihT : cm_PT D kk nc no0 ns nd x_lineClass x_lineLength x_methodGeneric x_parameterCount x_specialiser x_tokenKind x_tokenValue x_tokenCount x_isSealed x_classHasSlot x_classSlot x_superDraft y_has y_initial y_draftHas y_draftInitial y_lists y_listLength y_gone y_single y_special y_shownSteps μ) : cm_PT D kk nc no0 ns nd x_lineClass x_lineLength x_methodGeneric x_parameterCount x_specialiser x_tokenKind x_tokenValue x_tokenCount x_isSealed x_classHasSlot x_classSlot x_superDraft y_has y_initial y_draftHas y_draftInitial y_lists y_listLength y_gone y_single y_special y_shownSteps (μ + 1) := by
  intro no s tt v f K
  intros
  rename_i h hn hv hwo hmu htt hY n hn'
  obtain ⟨m, pl, pc, ar, its⟩ := f
  obtain ⟨n1, rfl⟩ : ∃ n1, n = n1 + 1 := ⟨n - 1, by omega⟩
  cases its with
  | nil => exact cm_T_leave hC ihT h hn hv hwo hmu htt hY n1 hn'
  | cons it r =>
    obtain ⟨c, g, nv, z⟩ := it
    obtain ⟨gg, p, t, j, a1, a2, a3, a4, a5, a6, a7, a8, a9, a10, a11, a12, a13, a14, a15, a16, a17, a18⟩ := cm_top hC.2.2.2.2.2.1 h
    have htk := a12 j a10
    rw [← a11] at htk
    obtain ⟨q, hq, eq, hq1, hq3, hq45, hq11⟩ := htk
    have hK := cm_kind (x_parameterCount := x_parameterCount) (x_tokenValue := x_tokenValue) eq
    rw [hK] at a13
    have hne : q ≠ 0 ∧ q ≠ 1 ∧ q ≠ 2 ∧ q ≠ 12 := by
      refine ⟨?_, ?_, ?_, ?_⟩ <;> (rintro rfl; exact absurd a13 (Nat.not_lt_zero g))
    by_cases q9 : q = 9
    · subst q9
      obtain ⟨b1, b2⟩ := a14 eq
      subst b1
      have hg : g = 0 ∨ g = 1 := by omega
      rcases hg with rfl | rfl
      · exact cm_T_if0 hC ihW h hn hv hwo hmu htt eq hY n1 hn'
      · exact cm_T_if1 hC ihT h hn hv hwo hmu htt eq hY n1 hn'
    · have b1 : nv = g := a15 (by rw [eq]; exact fun zz => q9 (bs_inj (b := 9) (by omega) (by omega) zz))
      subst b1
      by_cases q10 : q = 10
      · subst q10
        have hA : rl_ar x_parameterCount (nI 10) (x_tokenValue c) = 2 := rfl
        have hg : nv = 0 ∨ nv = 1 := by omega
        rcases hg with rfl | rfl
        · exact cm_T_seq0 hC ihW h hn hv hwo hmu htt eq hY n1 hn'
        · exact cm_T_seq1 hC ihT h hn hv hwo hmu htt eq hY (n1 + 1) hn'
      · by_cases hmore : nv + 1 < (cm_A x_parameterCount x_tokenKind x_tokenValue) c
        · exact cm_T_more hC ihW h hn hv hwo hmu htt eq hq q9 q10 hmore hY n1 hn'
        · rw [hK] at hmore
          have hs9 : q = 3 ∨ q = 4 ∨ q = 5 ∨ q = 6 ∨ q = 7 ∨ q = 8 ∨ q = 11 := by omega
          rcases hs9 with rfl | rfl | rfl | rfl | rfl | rfl | rfl
          · obtain ⟨a, ha, ea⟩ := hq3 rfl
            obtain ⟨pp, hpp1, hpp3, epp⟩ := hC.2.2.2.1 a ha
            have hA : rl_ar x_parameterCount (nI 3) (x_tokenValue c) = pp := by
              rw [ea]
              show (x_parameterCount (nI a).toNatClampNeg).toNatClampNeg = pp
              rw [bs_clk (by omega), epp, bs_clk (by omega)]
            rw [hA] at hmore a13
            exact cm_T_call hC ihW h hn hv hwo hmu htt ha hpp1 hpp3 epp eq ea (by rw [hK, hA]) (by omega) hY n1 hn'
          · have hA : rl_ar x_parameterCount (nI 4) (x_tokenValue c) = 1 := rfl
            have hg : nv = 0 := by omega
            subst hg
            obtain ⟨a, ha, ea⟩ := hq45 (Or.inl rfl)
            exact cm_T_get hC ihT h hn hv hwo hmu htt ha eq ea hY n1 hn'
          · have hA : rl_ar x_parameterCount (nI 5) (x_tokenValue c) = 2 := rfl
            have hg : nv = 1 := by omega
            subst hg
            obtain ⟨a, ha, ea⟩ := hq45 (Or.inr rfl)
            exact cm_T_set hC ihT h hn hv hwo hmu htt ha eq ea hY n1 hn'
          · have hA : rl_ar x_parameterCount (nI 6) (x_tokenValue c) = 2 := rfl
            have hg : nv = 1 := by omega
            subst hg
            exact cm_T_int hC ihT h hn hv hwo hmu htt (by omega) (by omega) eq hY n1 hn'
          · have hA : rl_ar x_parameterCount (nI 7) (x_tokenValue c) = 2 := rfl
            have hg : nv = 1 := by omega
            subst hg
            exact cm_T_int hC ihT h hn hv hwo hmu htt (by omega) (by omega) eq hY n1 hn'
          · have hA : rl_ar x_parameterCount (nI 8) (x_tokenValue c) = 2 := rfl
            have hg : nv = 1 := by omega
            subst hg
            exact cm_T_int hC ihT h hn hv hwo hmu htt (by omega) (by omega) eq hY n1 hn'
          · have hA : rl_ar x_parameterCount (nI 11) (x_tokenValue c) = 1 := rfl
            have hg : nv = 0 := by omega
            subst hg
            exact cm_T_is hC ihT h hn hv hwo hmu htt eq hY n1 hn'
theorem cm_sim (hC : cm_C nc no0 ns nd x_lineClass x_lineLength x_methodGeneric x_parameterCount x_specialiser x_tokenKind x_tokenValue x_tokenCount x_isSealed x_classHasSlot x_classSlot x_superDraft y_has y_initial y_draftHas y_draftInitial y_lists y_listLength y_gone y_single y_special y_shownSteps) : ∀ μ, cm_PW D kk nc no0 ns nd x_lineClass x_lineLength x_methodGeneric x_parameterCount x_specialiser x_tokenKind x_tokenValue x_tokenCount x_isSealed x_classHasSlot x_classSlot x_superDraft y_has y_initial y_draftHas y_draftInitial y_lists y_listLength y_gone y_single y_special y_shownSteps μ ∧ cm_PT D kk nc no0 ns nd x_lineClass x_lineLength x_methodGeneric x_parameterCount x_specialiser x_tokenKind x_tokenValue x_tokenCount x_isSealed x_classHasSlot x_classSlot x_superDraft y_has y_initial y_draftHas y_draftInitial y_lists y_listLength y_gone y_single y_special y_shownSteps μ := by
  intro μ
  induction μ with
  | zero =>
    constructor
    · intro no s tt f K
      intros
      rename_i h hn hmu htt hY n hn'
      have e : (f :: K).length = K.length + 1 := rfl
      unfold cm_fi at hmu
      omega
    · intro no s tt v f K
      intros
      rename_i h hn hv hwo hmu htt hY n hn'
      have e : (f :: K).length = K.length + 1 := rfl
      unfold cm_fi at hmu
      omega
  | succ μ ih => exact ⟨cm_Wstep hC ih.1 ih.2, cm_Tstep hC ih.1 ih.2⟩
end
end
section
/-! call -/
theorem i_vc_call {k : Nat} {u : SX} {v : SY} (I : i_Rel k u v) (hk : k + 9 ≤ 4608) (v1 : Int32) (a1 : Int64) (a2 : Int64) (a3 : Int64) : wpX_call (fun r u' => wpY_call (fun r' v' => r' = r ∧ i_Rel (k + 9) u' v') v v1 a1 a2 a3) u v1 a1 a2 a3 := by
  obtain ⟨x_classCount, x_superCount, x_objectCount, x_draftSpecialCount, x_state, x_stepCount, x_latestValue, x_enterGeneric, x_enterPlace, x_frameCount, x_operatorCount, x_valueCount, x_lineClass, x_lineLength, x_isSealed, x_classHasSlot, x_classSlot, x_superDraft, x_objectClass, x_objectHasSlot, x_objectSlot, x_parameterCount, x_methodGeneric, x_specialiser, x_tokenKind, x_tokenValue, x_tokenCount, x_argument, x_rank, x_orderPlace, x_frameMethod, x_framePlace, x_frameToken, x_frameOperators, x_frameArgument, x_operatorKind, x_operatorValue, x_operatorLeft, x_workedOut⟩ := u
  obtain ⟨y_classes, y_supers, y_objects, y_specials, y_depth, y_ops, y_held, y_fault, y_steps, y_shownSteps, y_result, y_line, y_lineLength, y_has, y_sealed, y_initial, y_drafted, y_draftHas, y_draftInitial, y_lists, y_listLength, y_gone, y_classOfObject, y_slots, y_parameters, y_generic, y_single, y_special, y_kind, y_tokens, y_with, y_methodAt, y_pc, y_chosen, y_many, y_reached, y_opsAt, y_broken, y_arguments, y_operands, y_operator, y_got⟩ := v
  obtain ⟨nc, no, ns, nd, rfl, rfl, rfl, rfl, rfl, rfl, rfl, rfl, rfl, rfl, rfl, rfl, rfl, rfl, rfl, rfl, rfl, rfl, rfl, rfl, hcls, hsup, hslt, hobj, hpar, hgen, htok, hbod, hspc, hunq⟩ := I
  have J : ∀ (ag : Nat → Int64), i_Rel (k + 9) (nI nc, nI ns, nI no, nI nd, x_state, x_stepCount, x_latestValue, x_enterGeneric, x_enterPlace, x_frameCount, x_operatorCount, x_valueCount, x_lineClass, x_lineLength, x_isSealed, x_classHasSlot, x_classSlot, x_superDraft, x_objectClass, x_objectHasSlot, x_objectSlot, x_parameterCount, x_methodGeneric, x_specialiser, x_tokenKind, x_tokenValue, x_tokenCount, ag, x_rank, x_orderPlace, x_frameMethod, x_framePlace, x_frameToken, x_frameOperators, x_frameArgument, x_operatorKind, x_operatorValue, x_operatorLeft, x_workedOut) (nI nc, nI ns, nI no, nI nd, y_depth, y_ops, y_held, y_fault, y_steps, x_stepCount, x_latestValue, x_lineClass, x_lineLength, y_has, x_isSealed, y_initial, x_superDraft, y_draftHas, y_draftInitial, y_lists, y_listLength, y_gone, x_objectClass, y_slots, x_parameterCount, x_methodGeneric, y_single, y_special, x_tokenKind, x_tokenCount, x_tokenValue, y_methodAt, y_pc, y_chosen, y_many, y_reached, y_opsAt, y_broken, y_arguments, y_operands, y_operator, y_got) := fun ag => ⟨nc, no, ns, nd, rfl, rfl, rfl, rfl, rfl, rfl, rfl, rfl, rfl, rfl, rfl, rfl, rfl, rfl, rfl, rfl, rfl, rfl, rfl, rfl, hcls, hsup, hslt, hobj, hpar, hgen, htok, hbod, hspc, hunq⟩
  have hn : nc ≤ 16 := hcls.2.1
  have hno := hobj.1
  rcases bs_ar2 v1 (n := 5) (by omega) with h | ⟨g, hg, rfl⟩
  · unfold wpX_call
    unfold wpX_takeArguments
    refine mx_isGeneric_f h (br_t rfl (br_t rfl ?_))
    unfold wpY_call
    unfold wpY_callable
    exact my_out_f (q := 5) h (br_f (by decide) (br_t rfl ⟨rfl, J _⟩))
  · obtain ⟨p, hp1, hp3, ep⟩ := hpar g hg
    unfold wpX_call
    refine mx_takeArguments hno hg hp3 ep (fun hv => br_f (by decide) ?_) (fun hv => br_t rfl ?_)
    · have hC : cm_C nc no ns nd x_lineClass x_lineLength x_methodGeneric x_parameterCount x_specialiser x_tokenKind x_tokenValue x_tokenCount x_isSealed x_classHasSlot x_classSlot x_superDraft y_has y_initial y_draftHas y_draftInitial y_lists y_listLength y_gone y_single y_special x_stepCount := ⟨hcls, hsup, hslt, hpar, hgen, htok, hbod, hspc, hunq⟩
      have hfi : cm_fi (cm_A x_parameterCount x_tokenKind x_tokenValue) 0 [] 5 = 3605 := rfl
      refine ⟨3606, ?_⟩
      refine cm_E_call (y_shownSteps := x_stepCount) (y_has := y_has) (y_initial := y_initial) (y_draftHas := y_draftHas) (y_draftInitial := y_draftInitial) (y_lists := y_lists) (y_listLength := y_listLength) (y_gone := y_gone) (y_slots := y_slots) (y_single := y_single) (y_special := y_special) (y_methodAt := y_methodAt) (y_pc := y_pc) (y_chosen := y_chosen) (y_many := y_many) (y_reached := y_reached) (y_opsAt := y_opsAt) (y_broken := y_broken) (y_arguments := y_arguments) (y_operands := y_operands) (y_operator := y_operator) (y_got := y_got) (D := fun post' => wpY_call post' (nI nc, nI ns, nI no, nI nd, y_depth, y_ops, y_held, y_fault, y_steps, x_stepCount, x_latestValue, x_lineClass, x_lineLength, y_has, x_isSealed, y_initial, x_superDraft, y_draftHas, y_draftInitial, y_lists, y_listLength, y_gone, x_objectClass, y_slots, x_parameterCount, x_methodGeneric, y_single, y_special, x_tokenKind, x_tokenCount, x_tokenValue, y_methodAt, y_pc, y_chosen, y_many, y_reached, y_opsAt, y_broken, y_arguments, y_operands, y_operator, y_got) (nI g) a1 a2 a3) (kk := k + 9) (μ := 4000) (K := []) (s := 0) (tt := 0) (ar := ca_tr a1 a2 a3) (ag' := ca_ag y_arguments 0 a1 a2 a3) hC (cm_sim hC 4000).1 (cm_V0 hobj (by omega)) (Nat.le_refl _) hg hp1 hp3 ep hv (fun q hq => ?_) (fun q hq => ca_ag_k (by omega)) (fun j hj => absurd hj (Nat.not_lt_zero j)) (by show 3603 ≤ 4000; omega) (by rw [hfi]; omega) (fun post' he => ?_) 3606 (by rw [hfi]; omega)
      · have e := ca_ag_k (f := x_argument) (b := 0) (x := a1) (y := a2) (z := a3) (k := q) (by omega)
        rw [Nat.zero_add] at e
        exact e
      · obtain ⟨n1, hen⟩ := he
        unfold wpY_call
        refine my_callable hcls.1 hn hno hobj.2.1 hg hp1 hp3 ep (fun _ => br_f (by decide) ?_) (fun z => absurd hv z)
        refine my_bring (lv := 0) (by omega) ?_
        refine hen _ (fun t ht => ?_)
        obtain ⟨z_classes, z_supers, z_objects, z_specials, z_depth, z_ops, z_held, z_fault, z_steps, z_shownSteps, z_result, z_line, z_lineLength, z_has, z_sealed, z_initial, z_drafted, z_draftHas, z_draftInitial, z_lists, z_listLength, z_gone, z_classOfObject, z_slots, z_parameters, z_generic, z_single, z_special, z_kind, z_tokens, z_with, z_methodAt, z_pc, z_chosen, z_many, z_reached, z_opsAt, z_broken, z_arguments, z_operands, z_operator, z_got⟩ := t
        exact ⟨n1, ht⟩
    · unfold wpY_call
      exact my_callable hcls.1 hn hno hobj.2.1 hg hp1 hp3 ep (fun z => absurd z hv) (fun _ => br_t rfl ⟨rfl, J _⟩)
end
