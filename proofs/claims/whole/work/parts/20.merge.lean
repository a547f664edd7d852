/-! the merge: lists E k i (i < ln k), k ≤ ns; G k: how many are gone; T: the taken classes as a bit set -/
def mg_beh (E : Nat → Nat → Nat) (ln : Nat → Nat) (ns : Nat) (G : Nat → Nat) (c : Nat) : Prop := ∃ k i, k ≤ ns ∧ G k < i ∧ i < ln k ∧ E k i = c
def mg_cd (E : Nat → Nat → Nat) (ln : Nat → Nat) (ns : Nat) (G : Nat → Nat) (k : Nat) : Prop := G k < ln k ∧ ¬ mg_beh E ln ns G (E k (G k))
noncomputable def mg_k (E : Nat → Nat → Nat) (ln : Nat → Nat) (ns : Nat) (G : Nat → Nat) : Nat := bs_fi (mg_cd E ln ns G) (ns + 1)
def mg_h (E : Nat → Nat → Nat) (ln : Nat → Nat) (ns : Nat) (G : Nat → Nat) : Prop := mg_k E ln ns G < ns + 1
noncomputable def mg_c (E : Nat → Nat → Nat) (ln : Nat → Nat) (ns : Nat) (G : Nat → Nat) : Nat := E (mg_k E ln ns G) (G (mg_k E ln ns G))
noncomputable def mg_g (E : Nat → Nat → Nat) (ln : Nat → Nat) (ns : Nat) (G : Nat → Nat) : Nat → Nat := fun k => bs_ci (G k < ln k ∧ E k (G k) = mg_c E ln ns G) (G k + 1) (G k)
noncomputable def mg_G (E : Nat → Nat → Nat) (ln : Nat → Nat) (ns : Nat) : Nat → Nat → Nat
  | 0 => fun _ => 0
  | q + 1 => mg_g E ln ns (mg_G E ln ns q)
noncomputable def mg_T (E : Nat → Nat → Nat) (ln : Nat → Nat) (ns : Nat) : Nat → Int32
  | 0 => 0
  | q + 1 => mg_T E ln ns q ||| ((1 : Int32) <<< (nI (mg_c E ln ns (mg_G E ln ns q)) &&& 31))
noncomputable def mg_N (E : Nat → Nat → Nat) (ln : Nat → Nat) (ns : Nat) : Nat := bs_fi (fun q => ¬ mg_h E ln ns (mg_G E ln ns q)) 16
def mg_inv (E : Nat → Nat → Nat) (ln : Nat → Nat) (ns : Nat) (T : Int32) (G : Nat → Nat) : Prop := (∀ k, k ≤ ns → ∀ i, i < ln k → (or_bit T (E k i) ↔ i < G k)) ∧ ∀ k, k ≤ ns → G k ≤ ln k
def mg_ok (E : Nat → Nat → Nat) (ln : Nat → Nat) (ns nc : Nat) : Prop := ns ≤ 3 ∧ nc ≤ 15 ∧ (∀ k, k ≤ ns → ln k ≤ 16) ∧ ∀ k, k ≤ ns → ∀ i, i < ln k → E k i < nc
theorem mg_cand {E : Nat → Nat → Nat} {ln : Nat → Nat} {ns : Nat} {G : Nat → Nat} (h : mg_h E ln ns G) : mg_k E ln ns G ≤ ns ∧ G (mg_k E ln ns G) < ln (mg_k E ln ns G) ∧ ¬ mg_beh E ln ns G (mg_c E ln ns G) := by
  have h1 := bs_fi_p (p := mg_cd E ln ns G) h
  have h2 : mg_k E ln ns G < ns + 1 := h
  exact ⟨by omega, h1.1, h1.2⟩
theorem mg_step {E : Nat → Nat → Nat} {ln : Nat → Nat} {ns nc : Nat} {T : Int32} {G : Nat → Nat} (hok : mg_ok E ln ns nc) (hi : mg_inv E ln ns T G) (h : mg_h E ln ns G) : mg_inv E ln ns (T ||| ((1 : Int32) <<< (nI (mg_c E ln ns G) &&& 31))) (mg_g E ln ns G) ∧ ¬ or_bit T (mg_c E ln ns G) ∧ mg_c E ln ns G < nc := by
  obtain ⟨hk, hl, hb⟩ := mg_cand h
  obtain ⟨h3, h15, h16, hE⟩ := hok
  have hc : mg_c E ln ns G < nc := hE _ hk _ hl
  refine ⟨⟨fun k hkn i hil => ?_, fun k hkn => ?_⟩, ?_, hc⟩
  · have he := hE k hkn i hil
    rw [or_set (by omega) (by omega), hi.1 k hkn i hil]
    unfold mg_g
    by_cases c1 : G k < ln k ∧ E k (G k) = mg_c E ln ns G
    · rw [bs_ct c1]
      constructor
      · rintro (z | z)
        · omega
        · by_cases c2 : G k < i
          · exact absurd ⟨k, i, hkn, c2, hil, z⟩ hb
          · omega
      · intro z
        by_cases c2 : i = G k
        · rw [c2]; exact Or.inr c1.2
        · exact Or.inl (by omega)
    · rw [bs_cf c1]
      constructor
      · rintro (z | z)
        · exact z
        · by_cases c2 : G k < i
          · exact absurd ⟨k, i, hkn, c2, hil, z⟩ hb
          · by_cases c3 : i = G k
            · rw [c3] at z hil; exact absurd ⟨hil, z⟩ c1
            · omega
      · exact fun z => Or.inl z
  · have := hi.2 k hkn
    unfold mg_g
    by_cases c1 : G k < ln k ∧ E k (G k) = mg_c E ln ns G
    · rw [bs_ct c1]; omega
    · rw [bs_cf c1]; exact this
  · have h1 := hi.1 _ hk _ hl
    intro z
    have h2 := h1.mp z
    omega
theorem mg_Nlt {E : Nat → Nat → Nat} {ln : Nat → Nat} {ns q : Nat} (h : q < mg_N E ln ns) : mg_h E ln ns (mg_G E ln ns q) := Classical.not_not.mp (bs_fi_lt h)
theorem mg_all {E : Nat → Nat → Nat} {ln : Nat → Nat} {ns nc : Nat} (hok : mg_ok E ln ns nc) : ∀ q, q ≤ mg_N E ln ns → mg_inv E ln ns (mg_T E ln ns q) (mg_G E ln ns q) ∧ or_cn (or_bit (mg_T E ln ns q)) nc = q := by
  intro q
  induction q with
  | zero =>
    intro _
    refine ⟨⟨fun k hk i hi => ⟨fun z => absurd z (or_bit0 ?_), fun z => absurd z (Nat.not_lt_zero i)⟩, fun k _ => Nat.zero_le _⟩, ?_⟩
    · have := hok.2.2.2 k hk i hi
      have := hok.2.1
      omega
    · have h1 := or_cn_mono (p := fun _ => False) (q := or_bit (mg_T E ln ns 0)) nc (fun i hi z => or_bit0 (by have := hok.2.1; omega) z)
      have h2 : ∀ n, or_cn (fun _ => False) n = 0 := by
        intro n
        induction n with
        | zero => rfl
        | succ n ih => rw [or_cn_f (fun z => z)]; exact ih
      rw [h2] at h1
      omega
  | succ q ih =>
    intro hq
    obtain ⟨h1, h2⟩ := ih (by omega)
    have hh := mg_Nlt (E := E) (ln := ln) (ns := ns) (q := q) (by omega)
    obtain ⟨h3, h4, h5⟩ := mg_step hok h1 hh
    refine ⟨h3, ?_⟩
    have h15 := hok.2.1
    have key : ∀ n, n ≤ 15 → or_cn (or_bit (mg_T E ln ns (q + 1))) n = or_cn (or_bit (mg_T E ln ns q)) n + bs_ci (mg_c E ln ns (mg_G E ln ns q) < n) 1 0 := by
      intro n
      induction n with
      | zero =>
        intro _
        rw [bs_cf (Nat.not_lt_zero _)]
        rfl
      | succ n ihn =>
        intro hn
        have e := ihn (by omega)
        have hb : or_bit (mg_T E ln ns (q + 1)) n ↔ or_bit (mg_T E ln ns q) n ∨ n = mg_c E ln ns (mg_G E ln ns q) := or_set (by omega) (by omega)
        by_cases c1 : n = mg_c E ln ns (mg_G E ln ns q)
        · rw [or_cn_t (hb.mpr (Or.inr c1)), or_cn_f (by rw [c1]; exact h4), e, bs_cf (by omega), bs_ct (by omega)]
        · by_cases c2 : or_bit (mg_T E ln ns q) n
          · rw [or_cn_t (hb.mpr (Or.inl c2)), or_cn_t c2, e]
            by_cases c3 : mg_c E ln ns (mg_G E ln ns q) < n
            · rw [bs_ct c3, bs_ct (by omega)]
            · rw [bs_cf c3, bs_cf (by omega)]
          · rw [or_cn_f (fun z => (hb.mp z).elim c2 c1), or_cn_f c2, e]
            by_cases c3 : mg_c E ln ns (mg_G E ln ns q) < n
            · rw [bs_ct c3, bs_ct (by omega)]
            · rw [bs_cf c3, bs_cf (by omega)]
    rw [key nc h15, h2, bs_ct h5]
theorem mg_Nle {E : Nat → Nat → Nat} {ln : Nat → Nat} {ns nc : Nat} (hok : mg_ok E ln ns nc) : mg_N E ln ns ≤ nc := by
  have h1 := (mg_all hok (mg_N E ln ns) (Nat.le_refl _)).2
  have h2 := or_cn_le (or_bit (mg_T E ln ns (mg_N E ln ns))) nc
  omega
theorem mg_Nno {E : Nat → Nat → Nat} {ln : Nat → Nat} {ns nc : Nat} (hok : mg_ok E ln ns nc) : ¬ mg_h E ln ns (mg_G E ln ns (mg_N E ln ns)) := by
  have h1 := mg_Nle hok
  have h2 := hok.2.1
  have h3 : mg_N E ln ns < 16 := by omega
  exact bs_fi_p (p := fun q => ¬ mg_h E ln ns (mg_G E ln ns q)) h3
/-- what X's nextOfMerge answers -/
noncomputable def mg_r (E : Nat → Nat → Nat) (ln : Nat → Nat) (ns : Nat) (G : Nat → Nat) : Int32 := bs_ci (mg_h E ln ns G) (nI (mg_c E ln ns G)) (bs_ci (∃ k, k ≤ ns ∧ G k < ln k) (-2) (-1))
/-- the lines after q classes of the merge -/
noncomputable def mg_ln (E : Nat → Nat → Nat) (ln : Nat → Nat) (ns nc : Nat) (LC : Nat → Int32) : Nat → Nat → Int32
  | 0 => upd LC (16 * nc) (nI nc)
  | q + 1 => upd (mg_ln E ln ns nc LC q) (16 * nc + 1 + q) (nI (mg_c E ln ns (mg_G E ln ns q)))
theorem mg_ln_lo {E : Nat → Nat → Nat} {ln : Nat → Nat} {ns nc : Nat} {LC : Nat → Int32} : ∀ q j, j < 16 * nc → mg_ln E ln ns nc LC q j = LC j := by
  intro q
  induction q with
  | zero => intro j hj; exact pk_un (by omega)
  | succ q ih =>
    intro j hj
    show upd _ _ _ j = _
    rw [pk_un (by omega)]
    exact ih j hj
theorem mg_ln_0 {E : Nat → Nat → Nat} {ln : Nat → Nat} {ns nc : Nat} {LC : Nat → Int32} : ∀ q, mg_ln E ln ns nc LC q (16 * nc) = nI nc := by
  intro q
  induction q with
  | zero => exact pk_us
  | succ q ih =>
    show upd _ _ _ _ = _
    rw [pk_un (by omega)]
    exact ih
theorem mg_ln_i {E : Nat → Nat → Nat} {ln : Nat → Nat} {ns nc : Nat} {LC : Nat → Int32} : ∀ q i, i < q → mg_ln E ln ns nc LC q (16 * nc + 1 + i) = nI (mg_c E ln ns (mg_G E ln ns i)) := by
  intro q
  induction q with
  | zero => intro i hi; omega
  | succ q ih =>
    intro i hi
    show upd _ _ _ _ = _
    by_cases e : i = q
    · rw [e, pk_us]
    · rw [pk_un (by omega)]
      exact ih i (by omega)
/-- the lists of this draft -/
def mg_E (SD LC : Nat → Int32) (ns : Nat) : Nat → Nat → Nat := fun k i => if k = ns then (SD i).toNatClampNeg else (LC (16 * (SD k).toNatClampNeg + i)).toNatClampNeg
def mg_l (SD LL : Nat → Int32) (ns : Nat) : Nat → Nat := fun k => if k = ns then ns else (LL (SD k).toNatClampNeg).toNatClampNeg
theorem mg_okL {nc ns : Nat} {SD LC LL : Nat → Int32} (hcls : rl_cls nc LC LL) (h15 : nc ≤ 15) (hsup : rl_sup nc ns SD) : mg_ok (mg_E SD LC ns) (mg_l SD LL ns) ns nc := by
  refine ⟨hsup.1, h15, fun k hk => ?_, fun k hk i hi => ?_⟩
  · unfold mg_l
    by_cases e : k = ns
    · rw [if_pos e]; have := hsup.1; omega
    · rw [if_neg e]
      obtain ⟨c, hc, ec⟩ := hsup.2 k (by omega)
      obtain ⟨l, hl, el, _⟩ := hcls.2.2 c hc
      rw [ec, bs_clk (by omega), el, bs_clk (by omega)]
      exact hl
  · unfold mg_l at hi
    unfold mg_E
    by_cases e : k = ns
    · rw [if_pos e] at hi
      rw [if_pos e]
      obtain ⟨c, hc, ec⟩ := hsup.2 i hi
      rw [ec, bs_clk (by omega)]
      exact hc
    · rw [if_neg e] at hi
      rw [if_neg e]
      obtain ⟨c, hc, ec⟩ := hsup.2 k (by omega)
      obtain ⟨l, hl, el, hk⟩ := hcls.2.2 c hc
      rw [ec, bs_clk (by omega), el, bs_clk (by omega)] at hi
      obtain ⟨e2, he2, ee2⟩ := hk i hi
      rw [ec, bs_clk (by omega), ee2, bs_clk (by omega)]
      exact he2
section
variable {x_classCount : Int32} {x_superCount : Int32} {x_objectCount : Int32} {x_draftSpecialCount : Int32} {x_state : Int32} {x_stepCount : Int32} {x_latestValue : Int64} {x_enterGeneric : Int32} {x_enterPlace : Int32} {x_frameCount : Int32} {x_operatorCount : Int32} {x_valueCount : Int32} {x_lineClass : Nat → Int32} {x_lineLength : Nat → Int32} {x_isSealed : Nat → Int32} {x_classHasSlot : Nat → Int32} {x_classSlot : Nat → Int32} {x_superDraft : Nat → Int32} {x_objectClass : Nat → Int32} {x_objectHasSlot : Nat → Int32} {x_objectSlot : Nat → Int64} {x_parameterCount : Nat → Int32} {x_methodGeneric : Nat → Int32} {x_specialiser : Nat → Int64} {x_tokenKind : Nat → Int32} {x_tokenValue : Nat → Int32} {x_tokenCount : Nat → Int32} {x_argument : Nat → Int64} {x_rank : Nat → Int32} {x_orderPlace : Nat → Int32} {x_frameMethod : Nat → Int32} {x_framePlace : Nat → Int32} {x_frameToken : Nat → Int32} {x_frameOperators : Nat → Int32} {x_frameArgument : Nat → Int64} {x_operatorKind : Nat → Int32} {x_operatorValue : Nat → Int32} {x_operatorLeft : Nat → Int32} {x_workedOut : Nat → Int64}
theorem mx_listEntry {post : Int32 → Prop} {nc ns k i : Nat} {LC : Nat → Int32} (hcls : rl_cls nc LC x_lineLength) (h15 : nc ≤ 15) (hsup : rl_sup nc ns x_superDraft) (hlo : ∀ j, j < 16 * nc → x_lineClass j = LC j) (hk : k ≤ ns) (hi : i < 16) (hp : post (bs_ci (i < mg_l x_superDraft x_lineLength ns k) (nI (mg_E x_superDraft LC ns k i)) (-1))) : wpX_listEntry post (x_classCount, nI ns, x_objectCount, x_draftSpecialCount, x_state, x_stepCount, x_latestValue, x_enterGeneric, x_enterPlace, x_frameCount, x_operatorCount, x_valueCount, x_lineClass, x_lineLength, x_isSealed, x_classHasSlot, x_classSlot, x_superDraft, x_objectClass, x_objectHasSlot, x_objectSlot, x_parameterCount, x_methodGeneric, x_specialiser, x_tokenKind, x_tokenValue, x_tokenCount, x_argument, x_rank, x_orderPlace, x_frameMethod, x_framePlace, x_frameToken, x_frameOperators, x_frameArgument, x_operatorKind, x_operatorValue, x_operatorLeft, x_workedOut) (nI k) (nI i) := by
  have h3 := hsup.1
  unfold wpX_listEntry
  unfold mg_l mg_E at hp
  refine pk_eq k ns (fun e => ?_) (fun e => ⟨pk_in k 3 (by omega), ?_⟩)
  · rw [if_pos e, if_pos e] at hp
    refine pk_le ns i (fun h => ?_) (fun h => ⟨pk_in i 3 (by omega), ?_⟩)
    · rw [bs_cf (by omega)] at hp; exact hp
    · obtain ⟨c, hc, ec⟩ := hsup.2 i h
      rw [bs_ct h, ec, bs_clk (by omega)] at hp
      rw [bs_clk (n := i) (by omega), ec]
      exact hp
  · rw [if_neg e, if_neg e] at hp
    obtain ⟨c, hc, ec⟩ := hsup.2 k (by omega)
    obtain ⟨l, hl, el, hkk⟩ := hcls.2.2 c hc
    rw [ec, bs_clk (by omega), el, bs_clk (by omega)] at hp
    refine nm_r (e' := nI c) (by rw [bs_clk (by omega), ec]) ⟨pk_in c 16 (by omega), ?_⟩
    rw [bs_clk (n := c) (by omega), el]
    refine pk_le l i (fun h => ?_) (fun h => ⟨pk_in (16 * c + i) 256 (by omega) (bs_xi 16 c i), ?_⟩)
    · rw [bs_cf (by omega)] at hp; exact hp
    · obtain ⟨e2, he2, ee2⟩ := hkk i h
      rw [bs_ct h, ee2, bs_clk (by omega)] at hp
      rw [bs_xi 16 c i, bs_clk (n := 16 * c + i) (by omega), hlo _ (by omega), ee2]
      exact hp
end
