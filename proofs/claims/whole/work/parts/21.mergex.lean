/-! the merge in X -/
section
variable {x_classCount : Int32} {x_superCount : Int32} {x_objectCount : Int32} {x_draftSpecialCount : Int32} {x_state : Int32} {x_stepCount : Int32} {x_latestValue : Int64} {x_enterGeneric : Int32} {x_enterPlace : Int32} {x_frameCount : Int32} {x_operatorCount : Int32} {x_valueCount : Int32} {x_lineClass : Nat → Int32} {x_lineLength : Nat → Int32} {x_isSealed : Nat → Int32} {x_classHasSlot : Nat → Int32} {x_classSlot : Nat → Int32} {x_superDraft : Nat → Int32} {x_objectClass : Nat → Int32} {x_objectHasSlot : Nat → Int32} {x_objectSlot : Nat → Int64} {x_parameterCount : Nat → Int32} {x_methodGeneric : Nat → Int32} {x_specialiser : Nat → Int64} {x_tokenKind : Nat → Int32} {x_tokenValue : Nat → Int32} {x_tokenCount : Nat → Int32} {x_argument : Nat → Int64} {x_rank : Nat → Int32} {x_orderPlace : Nat → Int32} {x_frameMethod : Nat → Int32} {x_framePlace : Nat → Int32} {x_frameToken : Nat → Int32} {x_frameOperators : Nat → Int32} {x_frameArgument : Nat → Int64} {x_operatorKind : Nat → Int32} {x_operatorValue : Nat → Int32} {x_operatorLeft : Nat → Int32} {x_workedOut : Nat → Int64}
theorem mx_firstOfList {post : Int32 → Prop} {E : Nat → Nat → Nat} {ln : Nat → Nat} {ns nc k : Nat} {T : Int32} {G : Nat → Nat} (hLE : ∀ (p : Int32 → Prop) (k i : Nat), k ≤ ns → i < 16 → p (bs_ci (i < ln k) (nI (E k i)) (-1)) → wpX_listEntry p (x_classCount, nI ns, x_objectCount, x_draftSpecialCount, x_state, x_stepCount, x_latestValue, x_enterGeneric, x_enterPlace, x_frameCount, x_operatorCount, x_valueCount, x_lineClass, x_lineLength, x_isSealed, x_classHasSlot, x_classSlot, x_superDraft, x_objectClass, x_objectHasSlot, x_objectSlot, x_parameterCount, x_methodGeneric, x_specialiser, x_tokenKind, x_tokenValue, x_tokenCount, x_argument, x_rank, x_orderPlace, x_frameMethod, x_framePlace, x_frameToken, x_frameOperators, x_frameArgument, x_operatorKind, x_operatorValue, x_operatorLeft, x_workedOut) (nI k) (nI i)) (hok : mg_ok E ln ns nc) (hinv : mg_inv E ln ns T G) (hk : k ≤ ns) (hp : post (bs_ci (G k < ln k) (nI (E k (G k))) (-1))) : wpX_firstOfList post (x_classCount, nI ns, x_objectCount, x_draftSpecialCount, x_state, x_stepCount, x_latestValue, x_enterGeneric, x_enterPlace, x_frameCount, x_operatorCount, x_valueCount, x_lineClass, x_lineLength, x_isSealed, x_classHasSlot, x_classSlot, x_superDraft, x_objectClass, x_objectHasSlot, x_objectSlot, x_parameterCount, x_methodGeneric, x_specialiser, x_tokenKind, x_tokenValue, x_tokenCount, x_argument, x_rank, x_orderPlace, x_frameMethod, x_framePlace, x_frameToken, x_frameOperators, x_frameArgument, x_operatorKind, x_operatorValue, x_operatorLeft, x_workedOut) (nI k) T := by
  have h15 := hok.2.1
  have h16 := hok.2.2.1 k hk
  unfold wpX_firstOfList
  refine loop_0 (σ := Unit) (fun n i _ => wX_firstOfList_2 post (nI k) T x_classCount (nI ns) x_objectCount x_draftSpecialCount x_state x_stepCount x_latestValue x_enterGeneric x_enterPlace x_frameCount x_operatorCount x_valueCount x_lineClass x_lineLength x_isSealed x_classHasSlot x_classSlot x_superDraft x_objectClass x_objectHasSlot x_objectSlot x_parameterCount x_methodGeneric x_specialiser x_tokenKind x_tokenValue x_tokenCount x_argument x_rank x_orderPlace x_frameMethod x_framePlace x_frameToken x_frameOperators x_frameArgument x_operatorKind x_operatorValue x_operatorLeft x_workedOut n (nI i)) (fun i _ => ∀ j, j < i → j < ln k → or_bit T (E k j)) 16 () lt_0 ?_ ?_
  · intro n _ hI
    refine br_t (nI_le (Nat.le_refl _) (by omega)) ?_
    rw [bs_cf (fun z => ?_)] at hp
    · exact hp
    · have h1 := (hinv.1 k hk (G k) z).mp (hI (G k) (by omega) z)
      omega
  · intro n i _ hi hI kk
    refine br_f (nI_ge (b := 16) hi (by omega)) (hLE _ k i hk hi ?_)
    by_cases hil : i < ln k
    · have hE := hok.2.2.2 k hk i hil
      rw [bs_ct hil]
      refine br_f (bs_n1 (by omega)) (br_c (fun z => ?_) (fun z => nm_r (nI_1 i) (kk () (lt_s hI (fun _ => Classical.not_not.mp (fun w => z (or_bit_n.mp w)))))))
      have hnb := or_bit_n.mpr z
      have hG : G k = i := by
        have h1 := hinv.1 k hk i hil
        by_cases c1 : i < G k
        · exact absurd (h1.mpr c1) hnb
        · by_cases c2 : G k < i
          · have h2 := (hinv.1 k hk (G k) (by omega)).mp (hI (G k) c2 (by omega))
            omega
          · omega
      rw [hG, bs_ct hil] at hp
      exact hp
    · rw [bs_cf hil]
      exact br_t rfl (nm_r (nI_1 i) (kk () (lt_s hI (fun z => absurd z hil))))
theorem mx_standsBehind {post : Int32 → Prop} {E : Nat → Nat → Nat} {ln : Nat → Nat} {ns nc c : Nat} {T : Int32} {G : Nat → Nat} (hLE : ∀ (p : Int32 → Prop) (k i : Nat), k ≤ ns → i < 16 → p (bs_ci (i < ln k) (nI (E k i)) (-1)) → wpX_listEntry p (x_classCount, nI ns, x_objectCount, x_draftSpecialCount, x_state, x_stepCount, x_latestValue, x_enterGeneric, x_enterPlace, x_frameCount, x_operatorCount, x_valueCount, x_lineClass, x_lineLength, x_isSealed, x_classHasSlot, x_classSlot, x_superDraft, x_objectClass, x_objectHasSlot, x_objectSlot, x_parameterCount, x_methodGeneric, x_specialiser, x_tokenKind, x_tokenValue, x_tokenCount, x_argument, x_rank, x_orderPlace, x_frameMethod, x_framePlace, x_frameToken, x_frameOperators, x_frameArgument, x_operatorKind, x_operatorValue, x_operatorLeft, x_workedOut) (nI k) (nI i)) (hok : mg_ok E ln ns nc) (hinv : mg_inv E ln ns T G) (hc : c < nc) (h1 : mg_beh E ln ns G c → post 1) (h0 : ¬ mg_beh E ln ns G c → post 0) : wpX_standsBehind post (x_classCount, nI ns, x_objectCount, x_draftSpecialCount, x_state, x_stepCount, x_latestValue, x_enterGeneric, x_enterPlace, x_frameCount, x_operatorCount, x_valueCount, x_lineClass, x_lineLength, x_isSealed, x_classHasSlot, x_classSlot, x_superDraft, x_objectClass, x_objectHasSlot, x_objectSlot, x_parameterCount, x_methodGeneric, x_specialiser, x_tokenKind, x_tokenValue, x_tokenCount, x_argument, x_rank, x_orderPlace, x_frameMethod, x_framePlace, x_frameToken, x_frameOperators, x_frameArgument, x_operatorKind, x_operatorValue, x_operatorLeft, x_workedOut) (nI c) T := by
  have h3 := hok.1
  have h15 := hok.2.1
  unfold wpX_standsBehind
  refine loop_0 (σ := Unit) (fun n k _ => wX_standsBehind_2 post (nI c) T x_classCount (nI ns) x_objectCount x_draftSpecialCount x_state x_stepCount x_latestValue x_enterGeneric x_enterPlace x_frameCount x_operatorCount x_valueCount x_lineClass x_lineLength x_isSealed x_classHasSlot x_classSlot x_superDraft x_objectClass x_objectHasSlot x_objectSlot x_parameterCount x_methodGeneric x_specialiser x_tokenKind x_tokenValue x_tokenCount x_argument x_rank x_orderPlace x_frameMethod x_framePlace x_frameToken x_frameOperators x_frameArgument x_operatorKind x_operatorValue x_operatorLeft x_workedOut n (nI k)) (fun k _ => ∀ k', k' < k → ∀ i, G k' < i → i < ln k' → ¬ E k' i = c) (ns + 1) () lt_0 ?_ ?_
  · intro n _ hI
    refine br_t (nI_lt (by omega) (by omega)) (h0 ?_)
    rintro ⟨k', i, hk', hi1, hi2, e⟩
    exact hI k' (by omega) i hi1 hi2 e
  · intro n k _ hk hI kk
    have hk2 : k ≤ ns := by omega
    have h16 := hok.2.2.1 k hk2
    refine br_f (nI_nlt (by omega) (by omega)) ?_
    refine loop_0 (σ := Int32) (fun n2 i s => wX_standsBehind_16 post (wX_standsBehind_2 post (nI c) T x_classCount (nI ns) x_objectCount x_draftSpecialCount x_state x_stepCount x_latestValue x_enterGeneric x_enterPlace x_frameCount x_operatorCount x_valueCount x_lineClass x_lineLength x_isSealed x_classHasSlot x_classSlot x_superDraft x_objectClass x_objectHasSlot x_objectSlot x_parameterCount x_methodGeneric x_specialiser x_tokenKind x_tokenValue x_tokenCount x_argument x_rank x_orderPlace x_frameMethod x_framePlace x_frameToken x_frameOperators x_frameArgument x_operatorKind x_operatorValue x_operatorLeft x_workedOut n) (nI c) T (nI k) x_classCount (nI ns) x_objectCount x_draftSpecialCount x_state x_stepCount x_latestValue x_enterGeneric x_enterPlace x_frameCount x_operatorCount x_valueCount x_lineClass x_lineLength x_isSealed x_classHasSlot x_classSlot x_superDraft x_objectClass x_objectHasSlot x_objectSlot x_parameterCount x_methodGeneric x_specialiser x_tokenKind x_tokenValue x_tokenCount x_argument x_rank x_orderPlace x_frameMethod x_framePlace x_frameToken x_frameOperators x_frameArgument x_operatorKind x_operatorValue x_operatorLeft x_workedOut n2 s (nI i)) (fun i s => ((s = 0 ∧ ¬ (G k < i ∧ G k < ln k)) ∨ (s = 1 ∧ G k < i ∧ G k < ln k)) ∧ ∀ j, G k < j → j < i → j < ln k → ¬ E k j = c) 16 0 ⟨Or.inl ⟨rfl, by omega⟩, fun j _ hj => by omega⟩ ?_ ?_
    · intro n2 s hJ
      refine br_t (nI_le (Nat.le_refl _) (by omega)) (nm_r (nI_1 k) (kk () (lt_s hI (fun i hi1 hi2 => hJ.2 i hi1 (by omega) hi2))))
    · intro n2 i s hi hJ k2
      refine br_f (nI_ge (b := 16) hi (by omega)) (hLE _ k i hk2 hi ?_)
      have go : (i < ln k → G k < i → ¬ E k i = c) → wX_standsBehind_45 post (wX_standsBehind_2 post (nI c) T x_classCount (nI ns) x_objectCount x_draftSpecialCount x_state x_stepCount x_latestValue x_enterGeneric x_enterPlace x_frameCount x_operatorCount x_valueCount x_lineClass x_lineLength x_isSealed x_classHasSlot x_classSlot x_superDraft x_objectClass x_objectHasSlot x_objectSlot x_parameterCount x_methodGeneric x_specialiser x_tokenKind x_tokenValue x_tokenCount x_argument x_rank x_orderPlace x_frameMethod x_framePlace x_frameToken x_frameOperators x_frameArgument x_operatorKind x_operatorValue x_operatorLeft x_workedOut n) (wX_standsBehind_16 post (wX_standsBehind_2 post (nI c) T x_classCount (nI ns) x_objectCount x_draftSpecialCount x_state x_stepCount x_latestValue x_enterGeneric x_enterPlace x_frameCount x_operatorCount x_valueCount x_lineClass x_lineLength x_isSealed x_classHasSlot x_classSlot x_superDraft x_objectClass x_objectHasSlot x_objectSlot x_parameterCount x_methodGeneric x_specialiser x_tokenKind x_tokenValue x_tokenCount x_argument x_rank x_orderPlace x_frameMethod x_framePlace x_frameToken x_frameOperators x_frameArgument x_operatorKind x_operatorValue x_operatorLeft x_workedOut n) (nI c) T (nI k) x_classCount (nI ns) x_objectCount x_draftSpecialCount x_state x_stepCount x_latestValue x_enterGeneric x_enterPlace x_frameCount x_operatorCount x_valueCount x_lineClass x_lineLength x_isSealed x_classHasSlot x_classSlot x_superDraft x_objectClass x_objectHasSlot x_objectSlot x_parameterCount x_methodGeneric x_specialiser x_tokenKind x_tokenValue x_tokenCount x_argument x_rank x_orderPlace x_frameMethod x_framePlace x_frameToken x_frameOperators x_frameArgument x_operatorKind x_operatorValue x_operatorLeft x_workedOut n2) (nI c) T (nI k) s (nI i) (bs_ci (i < ln k) (nI (E k i)) (-1)) x_classCount (nI ns) x_objectCount x_draftSpecialCount x_state x_stepCount x_latestValue x_enterGeneric x_enterPlace x_frameCount x_operatorCount x_valueCount x_lineClass x_lineLength x_isSealed x_classHasSlot x_classSlot x_superDraft x_objectClass x_objectHasSlot x_objectSlot x_parameterCount x_methodGeneric x_specialiser x_tokenKind x_tokenValue x_tokenCount x_argument x_rank x_orderPlace x_frameMethod x_framePlace x_frameToken x_frameOperators x_frameArgument x_operatorKind x_operatorValue x_operatorLeft x_workedOut := by
        intro hne
        have hj2 : ∀ j, G k < j → j < i + 1 → j < ln k → ¬ E k j = c := by
          intro j hj1 hj2 hj3
          by_cases e : j = i
          · rw [e] at hj1 hj3 ⊢; exact hne hj3 hj1
          · exact hJ.2 j hj1 (by omega) hj3
        by_cases hil : i < ln k
        · rw [bs_ct hil]
          have hE := hok.2.2.2 k hk2 i hil
          have hb := hinv.1 k hk2 i hil
          refine br_f (bs_n1 (by omega)) (br_c (fun z => ?_) (fun z => ?_))
          · have hnb := or_bit_n.mpr z
            refine nm_r (e' := 1) ?_ (nm_r (nI_1 i) (k2 1 ⟨Or.inr ⟨rfl, ?_, ?_⟩, hj2⟩))
            · rcases hJ.1 with ⟨e, _⟩ | ⟨e, _⟩
              · rw [e]; rfl
              · rw [e]; rfl
            · by_cases c1 : i < G k
              · exact absurd (hb.mpr c1) hnb
              · omega
            · by_cases c1 : i < G k
              · exact absurd (hb.mpr c1) hnb
              · omega
          · have hbb : or_bit T (E k i) := Classical.not_not.mp (fun w => z (or_bit_n.mp w))
            have hlt := hb.mp hbb
            refine nm_r (cl_or s) (nm_r (nI_1 i) (k2 s ⟨?_, hj2⟩))
            rcases hJ.1 with ⟨e, h⟩ | ⟨e, h⟩
            · exact Or.inl ⟨e, by omega⟩
            · omega
        · rw [bs_cf hil]
          refine br_t rfl (nm_r (cl_or s) (nm_r (nI_1 i) (k2 s ⟨?_, hj2⟩)))
          rcases hJ.1 with ⟨e, h⟩ | ⟨e, h⟩
          · exact Or.inl ⟨e, by omega⟩
          · exact Or.inr ⟨e, by omega, h.2⟩
      rcases hJ.1 with ⟨rfl, h⟩ | ⟨rfl, h⟩
      · exact br_t rfl (go (fun a b => absurd ⟨b, by omega⟩ h))
      · refine br_f (by decide) (br_c (fun e => ?_) (fun e => go (fun a b z => e (by rw [bs_ct a, z]))))
        by_cases hil : i < ln k
        · rw [bs_ct hil] at e
          have hE := hok.2.2.2 k hk2 i hil
          exact h1 ⟨k, i, hk2, h.1, hil, bs_inj (by omega) (by omega) e⟩
        · rw [bs_cf hil] at e
          exact absurd e.symm (bs_n1 (by omega))
theorem mx_nextOfMerge {post : Int32 → Prop} {E : Nat → Nat → Nat} {ln : Nat → Nat} {ns nc : Nat} {T : Int32} {G : Nat → Nat} (hLE : ∀ (p : Int32 → Prop) (k i : Nat), k ≤ ns → i < 16 → p (bs_ci (i < ln k) (nI (E k i)) (-1)) → wpX_listEntry p (x_classCount, nI ns, x_objectCount, x_draftSpecialCount, x_state, x_stepCount, x_latestValue, x_enterGeneric, x_enterPlace, x_frameCount, x_operatorCount, x_valueCount, x_lineClass, x_lineLength, x_isSealed, x_classHasSlot, x_classSlot, x_superDraft, x_objectClass, x_objectHasSlot, x_objectSlot, x_parameterCount, x_methodGeneric, x_specialiser, x_tokenKind, x_tokenValue, x_tokenCount, x_argument, x_rank, x_orderPlace, x_frameMethod, x_framePlace, x_frameToken, x_frameOperators, x_frameArgument, x_operatorKind, x_operatorValue, x_operatorLeft, x_workedOut) (nI k) (nI i)) (hok : mg_ok E ln ns nc) (hinv : mg_inv E ln ns T G) (hp : post (mg_r E ln ns G)) : wpX_nextOfMerge post (x_classCount, nI ns, x_objectCount, x_draftSpecialCount, x_state, x_stepCount, x_latestValue, x_enterGeneric, x_enterPlace, x_frameCount, x_operatorCount, x_valueCount, x_lineClass, x_lineLength, x_isSealed, x_classHasSlot, x_classSlot, x_superDraft, x_objectClass, x_objectHasSlot, x_objectSlot, x_parameterCount, x_methodGeneric, x_specialiser, x_tokenKind, x_tokenValue, x_tokenCount, x_argument, x_rank, x_orderPlace, x_frameMethod, x_framePlace, x_frameToken, x_frameOperators, x_frameArgument, x_operatorKind, x_operatorValue, x_operatorLeft, x_workedOut) T := by
  have h3 := hok.1
  have h15 := hok.2.1
  unfold wpX_nextOfMerge
  refine loop_0 (σ := Int32) (fun n k s => wX_nextOfMerge_4 post T x_classCount (nI ns) x_objectCount x_draftSpecialCount x_state x_stepCount x_latestValue x_enterGeneric x_enterPlace x_frameCount x_operatorCount x_valueCount x_lineClass x_lineLength x_isSealed x_classHasSlot x_classSlot x_superDraft x_objectClass x_objectHasSlot x_objectSlot x_parameterCount x_methodGeneric x_specialiser x_tokenKind x_tokenValue x_tokenCount x_argument x_rank x_orderPlace x_frameMethod x_framePlace x_frameToken x_frameOperators x_frameArgument x_operatorKind x_operatorValue x_operatorLeft x_workedOut n s (nI k)) (fun k s => (∀ j, j < k → ¬ mg_cd E ln ns G j) ∧ ((s = -1 ∧ ∀ j, j < k → ¬ G j < ln j) ∨ (s = -2 ∧ ∃ j, j < k ∧ G j < ln j))) (ns + 1) (-1) ⟨lt_0, Or.inl ⟨rfl, lt_0⟩⟩ ?_ ?_
  · intro n s hI
    refine br_t (nI_lt (by omega) (by omega)) ?_
    have e : mg_k E ln ns G = ns + 1 := bs_fi_no hI.1
    unfold mg_r mg_h at hp
    rw [e, bs_cf (Nat.lt_irrefl _)] at hp
    rcases hI.2 with ⟨rfl, h⟩ | ⟨rfl, j, hj, h⟩
    · rw [bs_cf (fun ⟨k, hk, z⟩ => h k (by omega) z)] at hp; exact hp
    · rw [bs_ct ⟨j, by omega, h⟩] at hp; exact hp
  · intro n k s hk hI kk
    have hk2 : k ≤ ns := by omega
    refine br_f (nI_nlt (by omega) (by omega)) (mx_firstOfList hLE hok hinv hk2 ?_)
    by_cases hg : G k < ln k
    · rw [bs_ct hg]
      have hE := hok.2.2.2 k hk2 _ hg
      refine br_f (bs_n1 (by omega)) (mx_standsBehind hLE hok hinv hE (fun hb => br_f (by decide) (nm_r (nI_1 k) (kk (-2) ⟨lt_s hI.1 (fun z => z.2 hb), Or.inr ⟨rfl, k, by omega, hg⟩⟩))) (fun hb => br_t rfl ?_))
      have e : mg_k E ln ns G = k := bs_fi_at hk ⟨hg, hb⟩ hI.1
      unfold mg_r mg_h mg_c at hp
      rw [e, bs_ct hk] at hp
      exact hp
    · rw [bs_cf hg]
      refine br_t rfl (nm_r (nI_1 k) (kk s ⟨lt_s hI.1 (fun z => hg z.1), ?_⟩))
      rcases hI.2 with ⟨e, h⟩ | ⟨e, j, hj, h⟩
      · exact Or.inl ⟨e, lt_s h hg⟩
      · exact Or.inr ⟨e, j, by omega, h⟩
theorem mx_mergeLine {post : Int32 → SX → Prop} {nc ns : Nat} (hcls : rl_cls nc x_lineClass x_lineLength) (h15 : nc ≤ 15) (hsup : rl_sup nc ns x_superDraft)
    (h1 : (∀ k, k ≤ ns → ¬ mg_G (mg_E x_superDraft x_lineClass ns) (mg_l x_superDraft x_lineLength ns) ns (mg_N (mg_E x_superDraft x_lineClass ns) (mg_l x_superDraft x_lineLength ns) ns) k < mg_l x_superDraft x_lineLength ns k) → post 1 (nI nc, nI ns, x_objectCount, x_draftSpecialCount, x_state, x_stepCount, x_latestValue, x_enterGeneric, x_enterPlace, x_frameCount, x_operatorCount, x_valueCount, mg_ln (mg_E x_superDraft x_lineClass ns) (mg_l x_superDraft x_lineLength ns) ns nc x_lineClass (mg_N (mg_E x_superDraft x_lineClass ns) (mg_l x_superDraft x_lineLength ns) ns), upd x_lineLength nc (nI (mg_N (mg_E x_superDraft x_lineClass ns) (mg_l x_superDraft x_lineLength ns) ns + 1)), x_isSealed, x_classHasSlot, x_classSlot, x_superDraft, x_objectClass, x_objectHasSlot, x_objectSlot, x_parameterCount, x_methodGeneric, x_specialiser, x_tokenKind, x_tokenValue, x_tokenCount, x_argument, x_rank, x_orderPlace, x_frameMethod, x_framePlace, x_frameToken, x_frameOperators, x_frameArgument, x_operatorKind, x_operatorValue, x_operatorLeft, x_workedOut))
    (h0 : (∃ k, k ≤ ns ∧ mg_G (mg_E x_superDraft x_lineClass ns) (mg_l x_superDraft x_lineLength ns) ns (mg_N (mg_E x_superDraft x_lineClass ns) (mg_l x_superDraft x_lineLength ns) ns) k < mg_l x_superDraft x_lineLength ns k) → post 0 (nI nc, nI ns, x_objectCount, x_draftSpecialCount, x_state, x_stepCount, x_latestValue, x_enterGeneric, x_enterPlace, x_frameCount, x_operatorCount, x_valueCount, mg_ln (mg_E x_superDraft x_lineClass ns) (mg_l x_superDraft x_lineLength ns) ns nc x_lineClass (mg_N (mg_E x_superDraft x_lineClass ns) (mg_l x_superDraft x_lineLength ns) ns), upd x_lineLength nc (nI (mg_N (mg_E x_superDraft x_lineClass ns) (mg_l x_superDraft x_lineLength ns) ns + 1)), x_isSealed, x_classHasSlot, x_classSlot, x_superDraft, x_objectClass, x_objectHasSlot, x_objectSlot, x_parameterCount, x_methodGeneric, x_specialiser, x_tokenKind, x_tokenValue, x_tokenCount, x_argument, x_rank, x_orderPlace, x_frameMethod, x_framePlace, x_frameToken, x_frameOperators, x_frameArgument, x_operatorKind, x_operatorValue, x_operatorLeft, x_workedOut)) : wpX_mergeLine post (nI nc, nI ns, x_objectCount, x_draftSpecialCount, x_state, x_stepCount, x_latestValue, x_enterGeneric, x_enterPlace, x_frameCount, x_operatorCount, x_valueCount, x_lineClass, x_lineLength, x_isSealed, x_classHasSlot, x_classSlot, x_superDraft, x_objectClass, x_objectHasSlot, x_objectSlot, x_parameterCount, x_methodGeneric, x_specialiser, x_tokenKind, x_tokenValue, x_tokenCount, x_argument, x_rank, x_orderPlace, x_frameMethod, x_framePlace, x_frameToken, x_frameOperators, x_frameArgument, x_operatorKind, x_operatorValue, x_operatorLeft, x_workedOut) := by
  have hok := mg_okL hcls h15 hsup
  have hLE : ∀ q (p : Int32 → Prop) (k i : Nat), k ≤ ns → i < 16 → p (bs_ci (i < mg_l x_superDraft x_lineLength ns k) (nI (mg_E x_superDraft x_lineClass ns k i)) (-1)) → wpX_listEntry p (nI nc, nI ns, x_objectCount, x_draftSpecialCount, x_state, x_stepCount, x_latestValue, x_enterGeneric, x_enterPlace, x_frameCount, x_operatorCount, x_valueCount, mg_ln (mg_E x_superDraft x_lineClass ns) (mg_l x_superDraft x_lineLength ns) ns nc x_lineClass q, x_lineLength, x_isSealed, x_classHasSlot, x_classSlot, x_superDraft, x_objectClass, x_objectHasSlot, x_objectSlot, x_parameterCount, x_methodGeneric, x_specialiser, x_tokenKind, x_tokenValue, x_tokenCount, x_argument, x_rank, x_orderPlace, x_frameMethod, x_framePlace, x_frameToken, x_frameOperators, x_frameArgument, x_operatorKind, x_operatorValue, x_operatorLeft, x_workedOut) (nI k) (nI i) :=
    fun q p k i hk hi hp => mx_listEntry hcls h15 hsup (fun j hj => mg_ln_lo q j hj) hk hi hp
  generalize hE : mg_E x_superDraft x_lineClass ns = E at hok hLE h0 h1
  generalize hl : mg_l x_superDraft x_lineLength ns = ln at hok hLE h0 h1
  have hN := mg_Nle hok
  unfold wpX_mergeLine
  refine nm_r (bs_lm 16 nc) ⟨pk_in (16 * nc) 256 (by omega), nm_r (e' := mg_ln E ln ns nc x_lineClass 0) (by rw [bs_clk (by omega)]; rfl) (mx_nextOfMerge (hLE 0) hok (mg_all hok 0 (Nat.zero_le _)).1 ?_)⟩
  have key : ∀ d q, q + d = mg_N E ln ns → wX_mergeLine_29 post (nI (16 * nc)) (nI nc) (nI ns) x_objectCount x_draftSpecialCount x_state x_stepCount x_latestValue x_enterGeneric x_enterPlace x_frameCount x_operatorCount x_valueCount (d + 1) (mg_T E ln ns q) (mg_r E ln ns (mg_G E ln ns q)) (nI (q + 1)) (mg_ln E ln ns nc x_lineClass q) x_lineLength x_isSealed x_classHasSlot x_classSlot x_superDraft x_objectClass x_objectHasSlot x_objectSlot x_parameterCount x_methodGeneric x_specialiser x_tokenKind x_tokenValue x_tokenCount x_argument x_rank x_orderPlace x_frameMethod x_framePlace x_frameToken x_frameOperators x_frameArgument x_operatorKind x_operatorValue x_operatorLeft x_workedOut := by
    intro d
    induction d with
    | zero =>
      intro q hq
      have eq : q = mg_N E ln ns := by omega
      subst eq
      have hno := mg_Nno hok
      have fin : wX_mergeLine_68 post (mg_r E ln ns (mg_G E ln ns (mg_N E ln ns))) (nI (mg_N E ln ns + 1)) (nI nc) (nI ns) x_objectCount x_draftSpecialCount x_state x_stepCount x_latestValue x_enterGeneric x_enterPlace x_frameCount x_operatorCount x_valueCount (mg_ln E ln ns nc x_lineClass (mg_N E ln ns)) x_lineLength x_isSealed x_classHasSlot x_classSlot x_superDraft x_objectClass x_objectHasSlot x_objectSlot x_parameterCount x_methodGeneric x_specialiser x_tokenKind x_tokenValue x_tokenCount x_argument x_rank x_orderPlace x_frameMethod x_framePlace x_frameToken x_frameOperators x_frameArgument x_operatorKind x_operatorValue x_operatorLeft x_workedOut := by
        refine ⟨pk_in nc 16 (by omega), nm_r (e' := upd x_lineLength nc (nI (mg_N E ln ns + 1))) (by rw [bs_clk (by omega)]) ?_⟩
        unfold mg_r
        rw [bs_cf hno]
        by_cases z : ∃ k, k ≤ ns ∧ mg_G E ln ns (mg_N E ln ns) k < ln k
        · rw [bs_ct z]; exact br_f (by decide) (h0 z)
        · rw [bs_cf z]; exact br_t rfl (h1 (fun k hk w => z ⟨k, hk, w⟩))
      refine br_c (fun _ => fin) (fun _ => br_t ?_ fin)
      unfold mg_r
      rw [bs_cf hno]
      by_cases z : ∃ k, k ≤ ns ∧ mg_G E ln ns (mg_N E ln ns) k < ln k
      · rw [bs_ct z]; decide
      · rw [bs_cf z]; decide
    | succ d ih =>
      intro q hq
      have hh := mg_Nlt (E := E) (ln := ln) (ns := ns) (q := q) (by omega)
      have hst := mg_step hok (mg_all hok q (by omega)).1 hh
      have er : mg_r E ln ns (mg_G E ln ns q) = nI (mg_c E ln ns (mg_G E ln ns q)) := bs_ct hh
      rw [er]
      refine br_f (nI_ge (b := 16) (by omega) (by omega)) (br_f (nI_pos (by omega)) ⟨pk_in (16 * nc + (q + 1)) 256 (by omega) (nI_add _ _), nm_r (e' := mg_ln E ln ns nc x_lineClass (q + 1)) ?_ (nm_r (e' := mg_T E ln ns (q + 1)) rfl ?_)⟩)
      · rw [nI_add, bs_clk (by omega), show 16 * nc + (q + 1) = 16 * nc + 1 + q by omega]
        rfl
      · refine mx_nextOfMerge (hLE (q + 1)) hok (mg_all hok (q + 1) (by omega)).1 (nm_r (nI_1 (q + 1)) ?_)
        exact ih (q + 1) (by omega)
  exact ⟨mg_N E ln ns + 1, key (mg_N E ln ns) 0 (by omega)⟩
end
