/-! applicable, precedes, leader -/
section
variable {x_classCount : Int32} {x_superCount : Int32} {x_objectCount : Int32} {x_draftSpecialCount : Int32} {x_state : Int32} {x_stepCount : Int32} {x_latestValue : Int64} {x_enterGeneric : Int32} {x_enterPlace : Int32} {x_frameCount : Int32} {x_operatorCount : Int32} {x_valueCount : Int32} {x_lineClass : Nat → Int32} {x_lineLength : Nat → Int32} {x_isSealed : Nat → Int32} {x_classHasSlot : Nat → Int32} {x_classSlot : Nat → Int32} {x_superDraft : Nat → Int32} {x_objectClass : Nat → Int32} {x_objectHasSlot : Nat → Int32} {x_objectSlot : Nat → Int64} {x_parameterCount : Nat → Int32} {x_methodGeneric : Nat → Int32} {x_specialiser : Nat → Int64} {x_tokenKind : Nat → Int32} {x_tokenValue : Nat → Int32} {x_tokenCount : Nat → Int32} {x_argument : Nat → Int64} {x_rank : Nat → Int32} {x_orderPlace : Nat → Int32} {x_frameMethod : Nat → Int32} {x_framePlace : Nat → Int32} {x_frameToken : Nat → Int32} {x_frameOperators : Nat → Int32} {x_frameArgument : Nat → Int64} {x_operatorKind : Nat → Int32} {x_operatorValue : Nat → Int32} {x_operatorLeft : Nat → Int32} {x_workedOut : Nat → Int64} {y_classes : Int32} {y_supers : Int32} {y_objects : Int32} {y_specials : Int32} {y_depth : Int32} {y_ops : Int32} {y_held : Int32} {y_fault : Int32} {y_steps : Int32} {y_shownSteps : Int32} {y_result : Int64} {y_line : Nat → Int32} {y_lineLength : Nat → Int32} {y_has : Nat → Int32} {y_sealed : Nat → Int32} {y_initial : Nat → Int32} {y_drafted : Nat → Int32} {y_draftHas : Nat → Int32} {y_draftInitial : Nat → Int32} {y_lists : Nat → Int32} {y_listLength : Nat → Int32} {y_gone : Nat → Int32} {y_classOfObject : Nat → Int32} {y_slots : Nat → Int64} {y_parameters : Nat → Int32} {y_generic : Nat → Int32} {y_single : Nat → Int32} {y_special : Nat → Int64} {y_kind : Nat → Int32} {y_tokens : Nat → Int32} {y_with : Nat → Int32} {y_methodAt : Nat → Int32} {y_pc : Nat → Int32} {y_chosen : Nat → Int32} {y_many : Nat → Int32} {y_reached : Nat → Int32} {y_opsAt : Nat → Int32} {y_broken : Nat → Int32} {y_arguments : Nat → Int64} {y_operands : Nat → Int64} {y_operator : Nat → Int32} {y_got : Nat → Int32}
theorem mx_rankMethod {post : Int32 → SX → Prop} {nc no g p m : Nat} {ar : Nat → Int64} (hW : or_W nc no g p x_lineClass x_lineLength x_objectClass x_parameterCount ar) (hm : m < 24) (eg : x_methodGeneric m = nI g) (ha : ∀ k, k < p → x_argument k = ar k)
    (hp : ∀ rk' : Nat → Int32, (∀ j, (j < 3 * m ∨ 3 * m + 3 ≤ j) → rk' j = x_rank j) → (or_app (or_R x_lineClass x_lineLength x_objectClass x_specialiser ar p) p m → (∀ k, k < p → rk' (3 * m + k) = or_R x_lineClass x_lineLength x_objectClass x_specialiser ar p m k) → post 1 (x_classCount, x_superCount, x_objectCount, x_draftSpecialCount, x_state, x_stepCount, x_latestValue, x_enterGeneric, x_enterPlace, x_frameCount, x_operatorCount, x_valueCount, x_lineClass, x_lineLength, x_isSealed, x_classHasSlot, x_classSlot, x_superDraft, x_objectClass, x_objectHasSlot, x_objectSlot, x_parameterCount, x_methodGeneric, x_specialiser, x_tokenKind, x_tokenValue, x_tokenCount, x_argument, rk', x_orderPlace, x_frameMethod, x_framePlace, x_frameToken, x_frameOperators, x_frameArgument, x_operatorKind, x_operatorValue, x_operatorLeft, x_workedOut)) ∧ (¬ or_app (or_R x_lineClass x_lineLength x_objectClass x_specialiser ar p) p m → post 0 (x_classCount, x_superCount, x_objectCount, x_draftSpecialCount, x_state, x_stepCount, x_latestValue, x_enterGeneric, x_enterPlace, x_frameCount, x_operatorCount, x_valueCount, x_lineClass, x_lineLength, x_isSealed, x_classHasSlot, x_classSlot, x_superDraft, x_objectClass, x_objectHasSlot, x_objectSlot, x_parameterCount, x_methodGeneric, x_specialiser, x_tokenKind, x_tokenValue, x_tokenCount, x_argument, rk', x_orderPlace, x_frameMethod, x_framePlace, x_frameToken, x_frameOperators, x_frameArgument, x_operatorKind, x_operatorValue, x_operatorLeft, x_workedOut))) : wpX_rankMethod post (x_classCount, x_superCount, x_objectCount, x_draftSpecialCount, x_state, x_stepCount, x_latestValue, x_enterGeneric, x_enterPlace, x_frameCount, x_operatorCount, x_valueCount, x_lineClass, x_lineLength, x_isSealed, x_classHasSlot, x_classSlot, x_superDraft, x_objectClass, x_objectHasSlot, x_objectSlot, x_parameterCount, x_methodGeneric, x_specialiser, x_tokenKind, x_tokenValue, x_tokenCount, x_argument, x_rank, x_orderPlace, x_frameMethod, x_framePlace, x_frameToken, x_frameOperators, x_frameArgument, x_operatorKind, x_operatorValue, x_operatorLeft, x_workedOut) (nI m) := by
  obtain ⟨hcls, hno, hoc, hg, hp1, hp3, ep, hv⟩ := hW
  unfold wpX_rankMethod
  have em : x_methodGeneric (nI m).toNatClampNeg = nI g := by rw [bs_clk (by omega)]; exact eg
  refine loop_0 (σ := Nat → Int32) (fun n i s => wX_rankMethod_2 post (nI m) x_classCount x_superCount x_objectCount x_draftSpecialCount x_state x_stepCount x_latestValue x_enterGeneric x_enterPlace x_frameCount x_operatorCount x_valueCount n (nI i) x_lineClass x_lineLength x_isSealed x_classHasSlot x_classSlot x_superDraft x_objectClass x_objectHasSlot x_objectSlot x_parameterCount x_methodGeneric x_specialiser x_tokenKind x_tokenValue x_tokenCount x_argument s x_orderPlace x_frameMethod x_framePlace x_frameToken x_frameOperators x_frameArgument x_operatorKind x_operatorValue x_operatorLeft x_workedOut) (fun i s => (∀ j, (j < 3 * m ∨ 3 * m + 3 ≤ j) → s j = x_rank j) ∧ ∀ k, k < i → s (3 * m + k) = or_R x_lineClass x_lineLength x_objectClass x_specialiser ar p m k ∧ ¬ or_R x_lineClass x_lineLength x_objectClass x_specialiser ar p m k = -1) p x_rank ⟨fun _ _ => rfl, lt_0⟩ ?_ ?_
  · intro n s hI
    refine ⟨pk_in m 24 hm, pk_in g 5 hg em, ?_⟩
    rw [em, bs_clk (n := g) (by omega), ep]
    exact br_t (nI_le (Nat.le_refl _) (by omega)) ((hp s hI.1).1 (fun k hk => (hI.2 k hk).2) (fun k hk => (hI.2 k hk).1))
  · intro n i s hi hI k
    refine ⟨pk_in m 24 hm, pk_in g 5 hg em, ?_⟩
    rw [em, bs_clk (n := g) (by omega), ep]
    refine br_f (nI_ge hi (by omega)) (nm_r (bs_xi 3 m i) ⟨pk_in (3 * m + i) 75 (by omega), pk_in i 3 (by omega), ?_⟩)
    rw [bs_clk (n := 3 * m + i) (by omega), bs_clk (n := i) (by omega), ha i hi]
    refine mx_rankOf hcls hno hoc (hv i hi) ?_
    have er : or_R x_lineClass x_lineLength x_objectClass x_specialiser ar p m i = or_nr x_lineClass x_lineLength x_objectClass (x_specialiser (3 * m + i)) (ar i) := or_R_k hi
    rw [← er]
    refine ⟨pk_in (3 * m + i) 75 (by omega), nm_e ⟨pk_in (3 * m + i) 75 (by omega), ?_⟩⟩
    have hf : ∀ j, (j < 3 * m ∨ 3 * m + 3 ≤ j) → upd s (3 * m + i) (or_R x_lineClass x_lineLength x_objectClass x_specialiser ar p m i) j = x_rank j := by
      intro j hj
      rw [pk_un (by omega)]
      exact hI.1 j hj
    rw [pk_us]
    refine br_c (fun e => (hp _ hf).2 (fun z => z i hi e)) (fun e => nm_r (nI_1 i) (k _ ⟨hf, fun j hj => ?_⟩))
    by_cases e2 : j = i
    · rw [e2, pk_us]; exact ⟨rfl, e⟩
    · rw [pk_un (by omega)]; exact hI.2 j (by omega)
theorem my_applicable {post : Int32 → Prop} {nc no g p m fr : Nat} {SP ar : Nat → Int64} (hW : or_W nc no g p y_line y_lineLength y_classOfObject y_parameters ar) (hm : m < 24) (hfr : fr ≤ 24) (eg : y_generic m = nI g) (ha : ∀ k, k < p → y_arguments (fr + k) = ar k) (hs : ∀ k, k < p → rl_sp nc no (SP (3 * m + k)) (y_single (3 * m + k)) (y_special (3 * m + k)))
    (h1 : or_app (or_R y_line y_lineLength y_classOfObject SP ar p) p m → post 1) (h0 : ¬ or_app (or_R y_line y_lineLength y_classOfObject SP ar p) p m → post 0) : wpY_applicable post (y_classes, y_supers, nI no, y_specials, y_depth, y_ops, y_held, y_fault, y_steps, y_shownSteps, y_result, y_line, y_lineLength, y_has, y_sealed, y_initial, y_drafted, y_draftHas, y_draftInitial, y_lists, y_listLength, y_gone, y_classOfObject, y_slots, y_parameters, y_generic, y_single, y_special, y_kind, y_tokens, y_with, y_methodAt, y_pc, y_chosen, y_many, y_reached, y_opsAt, y_broken, y_arguments, y_operands, y_operator, y_got) (nI m) (nI fr) := by
  obtain ⟨hcls, hno, hoc, hg, hp1, hp3, ep, hv⟩ := hW
  unfold wpY_applicable
  have em : y_generic (nI m).toNatClampNeg = nI g := by rw [bs_clk (by omega)]; exact eg
  refine loop_0 (σ := Unit) (fun n i _ => wY_applicable_2 post (nI m) (nI fr) y_classes y_supers (nI no) y_specials y_depth y_ops y_held y_fault y_steps y_shownSteps y_result y_line y_lineLength y_has y_sealed y_initial y_drafted y_draftHas y_draftInitial y_lists y_listLength y_gone y_classOfObject y_slots y_parameters y_generic y_single y_special y_kind y_tokens y_with y_methodAt y_pc y_chosen y_many y_reached y_opsAt y_broken y_arguments y_operands y_operator y_got n (nI i)) (fun i _ => ∀ k, k < i → ¬ or_R y_line y_lineLength y_classOfObject SP ar p m k = -1) p () lt_0 ?_ ?_
  · intro n _ hI
    refine ⟨pk_in m 24 hm, pk_in g 5 hg em, ?_⟩
    rw [em, bs_clk (n := g) (by omega), ep]
    exact br_t (nI_le (Nat.le_refl _) (by omega)) (h1 hI)
  · intro n i _ hi hI k
    refine ⟨pk_in m 24 hm, pk_in g 5 hg em, ?_⟩
    rw [em, bs_clk (n := g) (by omega), ep]
    refine br_f (nI_ge hi (by omega)) ⟨pk_in (fr + i) 27 (by omega) (nI_add fr i), ?_⟩
    rw [nI_add fr i, bs_clk (n := fr + i) (by omega), ha i hi]
    refine my_near hcls hno hoc (hv i hi) hm (by omega) (hs i hi) ?_
    have er : or_R y_line y_lineLength y_classOfObject SP ar p m i = or_nr y_line y_lineLength y_classOfObject (SP (3 * m + i)) (ar i) := or_R_k hi
    have hc := or_ge0 (or_nr_c (sp := SP (3 * m + i)) hcls hno hoc (hv i hi))
    rw [← er] at hc ⊢
    refine br_c (fun z => nm_r (nI_1 i) (k () (lt_s hI (hc.mp z)))) (fun z => h0 (fun w => z (hc.mpr (w i hi))))
theorem mx_precedes {post : Int32 → Prop} {R : Nat → Nat → Int32} {g p m n : Nat} (hg : g < 5) (hp3 : p ≤ 3) (ep : x_parameterCount g = nI p) (hm : m < 24) (hn : n < 24) (eg : x_methodGeneric m = nI g) (rm : ∀ k, k < p → x_rank (3 * m + k) = R m k) (rn : ∀ k, k < p → x_rank (3 * n + k) = R n k) (h1 : (∀ k, k < p → R m k ≤ R n k) → post 1) (h0 : (¬ ∀ k, k < p → R m k ≤ R n k) → post 0) : wpX_precedes post (x_classCount, x_superCount, x_objectCount, x_draftSpecialCount, x_state, x_stepCount, x_latestValue, x_enterGeneric, x_enterPlace, x_frameCount, x_operatorCount, x_valueCount, x_lineClass, x_lineLength, x_isSealed, x_classHasSlot, x_classSlot, x_superDraft, x_objectClass, x_objectHasSlot, x_objectSlot, x_parameterCount, x_methodGeneric, x_specialiser, x_tokenKind, x_tokenValue, x_tokenCount, x_argument, x_rank, x_orderPlace, x_frameMethod, x_framePlace, x_frameToken, x_frameOperators, x_frameArgument, x_operatorKind, x_operatorValue, x_operatorLeft, x_workedOut) (nI m) (nI n) := by
  unfold wpX_precedes
  have em : x_methodGeneric (nI m).toNatClampNeg = nI g := by rw [bs_clk (by omega)]; exact eg
  refine loop_0 (σ := Unit) (fun n' i _ => wX_precedes_2 post (nI m) (nI n) x_classCount x_superCount x_objectCount x_draftSpecialCount x_state x_stepCount x_latestValue x_enterGeneric x_enterPlace x_frameCount x_operatorCount x_valueCount x_lineClass x_lineLength x_isSealed x_classHasSlot x_classSlot x_superDraft x_objectClass x_objectHasSlot x_objectSlot x_parameterCount x_methodGeneric x_specialiser x_tokenKind x_tokenValue x_tokenCount x_argument x_rank x_orderPlace x_frameMethod x_framePlace x_frameToken x_frameOperators x_frameArgument x_operatorKind x_operatorValue x_operatorLeft x_workedOut n' (nI i)) (fun i _ => ∀ k, k < i → R m k ≤ R n k) p () lt_0 ?_ ?_
  · intro n' _ hI
    refine ⟨pk_in m 24 hm, pk_in g 5 hg em, ?_⟩
    rw [em, bs_clk (n := g) (by omega), ep]
    exact br_t (nI_le (Nat.le_refl _) (by omega)) (h1 hI)
  · intro n' i _ hi hI k
    refine ⟨pk_in m 24 hm, pk_in g 5 hg em, ?_⟩
    rw [em, bs_clk (n := g) (by omega), ep]
    refine br_f (nI_ge hi (by omega)) ⟨pk_in (3 * m + i) 75 (by omega) (bs_xi 3 m i), pk_in (3 * n + i) 75 (by omega) (bs_xi 3 n i), ?_⟩
    rw [bs_xi 3 m i, bs_xi 3 n i, bs_clk (n := 3 * m + i) (by omega), bs_clk (n := 3 * n + i) (by omega), rm i hi, rn i hi]
    exact br_c (fun z => nm_r (nI_1 i) (k () (lt_s hI z))) (fun z => h0 (fun w => z (w i hi)))
theorem my_precedes {post : Int32 → Prop} {nc no g p m n fr : Nat} {SP ar : Nat → Int64} (hW : or_W nc no g p y_line y_lineLength y_classOfObject y_parameters ar) (hm : m < 24) (hn : n < 24) (hmn : m ≠ n) (hfr : fr ≤ 24) (eg : y_generic m = nI g) (ha : ∀ k, k < p → y_arguments (fr + k) = ar k) (hs : ∀ k, k < p → rl_sp nc no (SP (3 * m + k)) (y_single (3 * m + k)) (y_special (3 * m + k))) (hs2 : ∀ k, k < p → rl_sp nc no (SP (3 * n + k)) (y_single (3 * n + k)) (y_special (3 * n + k)))
    (h1 : (∀ k, k < p → or_R y_line y_lineLength y_classOfObject SP ar p m k ≤ or_R y_line y_lineLength y_classOfObject SP ar p n k) → post 1) (h0 : (¬ ∀ k, k < p → or_R y_line y_lineLength y_classOfObject SP ar p m k ≤ or_R y_line y_lineLength y_classOfObject SP ar p n k) → post 0) : wpY_precedes post (y_classes, y_supers, nI no, y_specials, y_depth, y_ops, y_held, y_fault, y_steps, y_shownSteps, y_result, y_line, y_lineLength, y_has, y_sealed, y_initial, y_drafted, y_draftHas, y_draftInitial, y_lists, y_listLength, y_gone, y_classOfObject, y_slots, y_parameters, y_generic, y_single, y_special, y_kind, y_tokens, y_with, y_methodAt, y_pc, y_chosen, y_many, y_reached, y_opsAt, y_broken, y_arguments, y_operands, y_operator, y_got) (nI m) (nI n) (nI fr) := by
  obtain ⟨hcls, hno, hoc, hg, hp1, hp3, ep, hv⟩ := hW
  unfold wpY_precedes
  have em : y_generic (nI m).toNatClampNeg = nI g := by rw [bs_clk (by omega)]; exact eg
  refine loop_0 (σ := Unit) (fun n' i _ => wY_precedes_3 post (nI m) (nI n) (nI fr) y_classes y_supers (nI no) y_specials y_depth y_ops y_held y_fault y_steps y_shownSteps y_result y_line y_lineLength y_has y_sealed y_initial y_drafted y_draftHas y_draftInitial y_lists y_listLength y_gone y_classOfObject y_slots y_parameters y_generic y_single y_special y_kind y_tokens y_with y_methodAt y_pc y_chosen y_many y_reached y_opsAt y_broken y_arguments y_operands y_operator y_got n' (nI i)) (fun i _ => ∀ k, k < i → or_R y_line y_lineLength y_classOfObject SP ar p m k ≤ or_R y_line y_lineLength y_classOfObject SP ar p n k) p () lt_0 ?_ ?_
  · intro n' _ hI
    refine ⟨pk_in m 24 hm, pk_in g 5 hg em, ?_⟩
    rw [em, bs_clk (n := g) (by omega), ep]
    exact br_t (nI_le (Nat.le_refl _) (by omega)) (pk_eq m n (fun e => absurd e hmn) (fun _ => h1 hI))
  · intro n' i _ hi hI k
    refine ⟨pk_in m 24 hm, pk_in g 5 hg em, ?_⟩
    rw [em, bs_clk (n := g) (by omega), ep]
    refine br_f (nI_ge hi (by omega)) ⟨pk_in (fr + i) 27 (by omega) (nI_add fr i), ?_⟩
    rw [nI_add fr i, bs_clk (n := fr + i) (by omega), ha i hi]
    refine my_near hcls hno hoc (hv i hi) hm (by omega) (hs i hi) ⟨pk_in (fr + i) 27 (by omega), ?_⟩
    refine my_near hcls hno hoc (hv i hi) hn (by omega) (hs2 i hi) ?_
    rw [← or_R_k (m := m) (SP := SP) (ar := ar) hi, ← or_R_k (m := n) (SP := SP) (ar := ar) hi]
    exact br_c (fun z => nm_r (nI_1 i) (k () (lt_s hI z))) (fun z => h0 (fun w => z (w i hi)))
theorem mx_precedesAll {post : Int32 → Prop} {R : Nat → Nat → Int32} {g p m : Nat} {L : Int32} (hg : g < 5) (hp3 : p ≤ 3) (ep : x_parameterCount g = nI p) (hm : m < 24) (hb : or_bit L m) (hF : ∀ m, m < 24 → or_bit L m → x_methodGeneric m = nI g ∧ ∀ k, k < p → x_rank (3 * m + k) = R m k) (h1 : or_good R p L m → post 1) (h0 : ¬ or_good R p L m → post 0) : wpX_precedesAll post (x_classCount, x_superCount, x_objectCount, x_draftSpecialCount, x_state, x_stepCount, x_latestValue, x_enterGeneric, x_enterPlace, x_frameCount, x_operatorCount, x_valueCount, x_lineClass, x_lineLength, x_isSealed, x_classHasSlot, x_classSlot, x_superDraft, x_objectClass, x_objectHasSlot, x_objectSlot, x_parameterCount, x_methodGeneric, x_specialiser, x_tokenKind, x_tokenValue, x_tokenCount, x_argument, x_rank, x_orderPlace, x_frameMethod, x_framePlace, x_frameToken, x_frameOperators, x_frameArgument, x_operatorKind, x_operatorValue, x_operatorLeft, x_workedOut) (nI m) L := by
  unfold wpX_precedesAll
  refine loop_0 (σ := Unit) (fun n' i _ => wX_precedesAll_2 post (nI m) L x_classCount x_superCount x_objectCount x_draftSpecialCount x_state x_stepCount x_latestValue x_enterGeneric x_enterPlace x_frameCount x_operatorCount x_valueCount x_lineClass x_lineLength x_isSealed x_classHasSlot x_classSlot x_superDraft x_objectClass x_objectHasSlot x_objectSlot x_parameterCount x_methodGeneric x_specialiser x_tokenKind x_tokenValue x_tokenCount x_argument x_rank x_orderPlace x_frameMethod x_framePlace x_frameToken x_frameOperators x_frameArgument x_operatorKind x_operatorValue x_operatorLeft x_workedOut n' (nI i)) (fun i _ => ∀ n, n < i → n ≠ m → or_bit L n → ∀ k, k < p → R m k ≤ R n k) 24 () lt_0 ?_ ?_
  · intro n' _ hI
    exact br_t (nI_le (Nat.le_refl _) (by omega)) (h1 ⟨hb, hI⟩)
  · intro n' i _ hi hI k
    refine br_f (nI_ge (b := 24) hi (by omega)) (pk_eq i m (fun e => nm_r (nI_1 i) (k () (lt_s hI (fun z => absurd e z)))) (fun ne => ?_))
    refine br_c (fun hbi => ?_) (fun nb => nm_r (nI_1 i) (k () (lt_s hI (fun _ z => absurd z nb))))
    refine mx_precedes (R := R) hg hp3 ep hm hi (hF m hm hb).1 (hF m hm hb).2 (hF i hi hbi).2 (fun h => br_f (by decide) (nm_r (nI_1 i) (k () (lt_s hI (fun _ _ => h))))) (fun h => br_t rfl (h0 (fun w => h (w.2 i hi ne hbi))))
theorem mx_leader {post : Int32 → Prop} {R : Nat → Nat → Int32} {g p : Nat} {L : Int32} (hg : g < 5) (hp3 : p ≤ 3) (ep : x_parameterCount g = nI p) (hF : ∀ m, m < 24 → or_bit L m → x_methodGeneric m = nI g ∧ ∀ k, k < p → x_rank (3 * m + k) = R m k) (hp : post (or_ox R p L)) : wpX_leader post (x_classCount, x_superCount, x_objectCount, x_draftSpecialCount, x_state, x_stepCount, x_latestValue, x_enterGeneric, x_enterPlace, x_frameCount, x_operatorCount, x_valueCount, x_lineClass, x_lineLength, x_isSealed, x_classHasSlot, x_classSlot, x_superDraft, x_objectClass, x_objectHasSlot, x_objectSlot, x_parameterCount, x_methodGeneric, x_specialiser, x_tokenKind, x_tokenValue, x_tokenCount, x_argument, x_rank, x_orderPlace, x_frameMethod, x_framePlace, x_frameToken, x_frameOperators, x_frameArgument, x_operatorKind, x_operatorValue, x_operatorLeft, x_workedOut) L := by
  unfold wpX_leader
  refine loop_0 (σ := Unit) (fun n' i _ => wX_leader_2 post L x_classCount x_superCount x_objectCount x_draftSpecialCount x_state x_stepCount x_latestValue x_enterGeneric x_enterPlace x_frameCount x_operatorCount x_valueCount x_lineClass x_lineLength x_isSealed x_classHasSlot x_classSlot x_superDraft x_objectClass x_objectHasSlot x_objectSlot x_parameterCount x_methodGeneric x_specialiser x_tokenKind x_tokenValue x_tokenCount x_argument x_rank x_orderPlace x_frameMethod x_framePlace x_frameToken x_frameOperators x_frameArgument x_operatorKind x_operatorValue x_operatorLeft x_workedOut n' (nI i)) (fun i _ => ∀ n, n < i → ¬ or_good R p L n) 24 () lt_0 ?_ ?_
  · intro n' _ hI
    refine br_t (nI_le (Nat.le_refl _) (by omega)) ?_
    have e : or_ld R p L = 24 := bs_fi_no hI
    unfold or_ox at hp
    rw [e, bs_cf (Nat.lt_irrefl _)] at hp
    refine br_c (fun z => ?_) (fun z => ?_)
    · rw [bs_ct z] at hp; exact hp
    · rw [bs_cf z] at hp; exact hp
  · intro n' i _ hi hI k
    refine br_f (nI_ge (b := 24) hi (by omega)) (br_c (fun hb => ?_) (fun nb => nm_r (nI_1 i) (k () (lt_s hI (fun z => nb z.1)))))
    refine mx_precedesAll hg hp3 ep hi hb hF (fun h => br_f (by decide) ?_) (fun h => br_t rfl (nm_r (nI_1 i) (k () (lt_s hI h))))
    have e : or_ld R p L = i := bs_fi_at hi h hI
    unfold or_ox at hp
    rw [e, bs_ct hi] at hp
    exact hp
theorem my_leader {post : Int32 → Prop} {nc no g p fr : Nat} {SP ar : Nat → Int64} {L : Int32} (hW : or_W nc no g p y_line y_lineLength y_classOfObject y_parameters ar) (hfr : fr ≤ 24) (ha : ∀ k, k < p → y_arguments (fr + k) = ar k) (hF : ∀ m, m < 24 → or_bit L m → y_generic m = nI g ∧ ∀ k, k < p → rl_sp nc no (SP (3 * m + k)) (y_single (3 * m + k)) (y_special (3 * m + k)))
    (hp : post (bs_ci (or_ld (or_R y_line y_lineLength y_classOfObject SP ar p) p L < 24) (nI (or_ld (or_R y_line y_lineLength y_classOfObject SP ar p) p L)) (-1))) : wpY_leader post (y_classes, y_supers, nI no, y_specials, y_depth, y_ops, y_held, y_fault, y_steps, y_shownSteps, y_result, y_line, y_lineLength, y_has, y_sealed, y_initial, y_drafted, y_draftHas, y_draftInitial, y_lists, y_listLength, y_gone, y_classOfObject, y_slots, y_parameters, y_generic, y_single, y_special, y_kind, y_tokens, y_with, y_methodAt, y_pc, y_chosen, y_many, y_reached, y_opsAt, y_broken, y_arguments, y_operands, y_operator, y_got) L (nI fr) := by
  unfold wpY_leader
  refine loop_0 (σ := Unit) (fun n' i _ => wY_leader_2 post L (nI fr) y_classes y_supers (nI no) y_specials y_depth y_ops y_held y_fault y_steps y_shownSteps y_result y_line y_lineLength y_has y_sealed y_initial y_drafted y_draftHas y_draftInitial y_lists y_listLength y_gone y_classOfObject y_slots y_parameters y_generic y_single y_special y_kind y_tokens y_with y_methodAt y_pc y_chosen y_many y_reached y_opsAt y_broken y_arguments y_operands y_operator y_got n' (nI i)) (fun i _ => ∀ n, n < i → ¬ or_good (or_R y_line y_lineLength y_classOfObject SP ar p) p L n) 24 () lt_0 ?_ ?_
  · intro n' _ hI
    refine br_t (nI_le (Nat.le_refl _) (by omega)) ?_
    have e : or_ld (or_R y_line y_lineLength y_classOfObject SP ar p) p L = 24 := bs_fi_no hI
    rw [e, bs_cf (Nat.lt_irrefl _)] at hp
    exact hp
  · intro n' m _ hm hI k
    refine br_f (nI_ge (b := 24) hm (by omega)) (br_c (fun nb => ?_) (fun hb => ?_))
    · have nb' := or_bit_n.mpr nb
      exact ⟨1, br_f (nI_ge (a := 0) (b := 24) (by omega) (by omega)) (br_t rfl (br_t rfl (nm_r (nI_1 m) (k () (lt_s hI (fun z => nb' z.1))))))⟩
    · have hb' : or_bit L m := Classical.not_not.mp (fun z => hb (or_bit_n.mp z))
      refine loop_0 (σ := Int32) (fun n2 i s => wY_leader_26 post (wY_leader_2 post L (nI fr) y_classes y_supers (nI no) y_specials y_depth y_ops y_held y_fault y_steps y_shownSteps y_result y_line y_lineLength y_has y_sealed y_initial y_drafted y_draftHas y_draftInitial y_lists y_listLength y_gone y_classOfObject y_slots y_parameters y_generic y_single y_special y_kind y_tokens y_with y_methodAt y_pc y_chosen y_many y_reached y_opsAt y_broken y_arguments y_operands y_operator y_got n') L (nI fr) (nI m) y_classes y_supers (nI no) y_specials y_depth y_ops y_held y_fault y_steps y_shownSteps y_result y_line y_lineLength y_has y_sealed y_initial y_drafted y_draftHas y_draftInitial y_lists y_listLength y_gone y_classOfObject y_slots y_parameters y_generic y_single y_special y_kind y_tokens y_with y_methodAt y_pc y_chosen y_many y_reached y_opsAt y_broken y_arguments y_operands y_operator y_got n2 s (nI i)) (fun i s => (s = 1 ∧ ∀ n, n < i → n ≠ m → or_bit L n → ∀ k, k < p → or_R y_line y_lineLength y_classOfObject SP ar p m k ≤ or_R y_line y_lineLength y_classOfObject SP ar p n k) ∨ (s = 0 ∧ ¬ or_good (or_R y_line y_lineLength y_classOfObject SP ar p) p L m)) 24 1 (Or.inl ⟨rfl, lt_0⟩) ?_ ?_
      · intro n2 s hJ
        refine br_t (nI_le (Nat.le_refl _) (by omega)) ?_
        rcases hJ with ⟨rfl, h⟩ | ⟨rfl, h⟩
        · have e : or_ld (or_R y_line y_lineLength y_classOfObject SP ar p) p L = m := bs_fi_at hm ⟨hb', h⟩ hI
          rw [e, bs_ct hm] at hp
          exact br_f (by decide) hp
        · exact br_t rfl (nm_r (nI_1 m) (k () (lt_s hI h)))
      · intro n2 i s hi hJ k2
        refine br_f (nI_ge (b := 24) hi (by omega)) ?_
        rcases hJ with ⟨rfl, h⟩ | ⟨rfl, h⟩
        · refine br_f (by decide) (pk_eq i m (fun e => nm_r (nI_1 i) (k2 1 (Or.inl ⟨rfl, lt_s h (fun z => absurd e z)⟩))) (fun ne => ?_))
          refine br_c (fun nb => nm_r (nI_1 i) (k2 1 (Or.inl ⟨rfl, lt_s h (fun _ z => absurd z (or_bit_n.mpr nb))⟩))) (fun nb => ?_)
          have hbi : or_bit L i := Classical.not_not.mp (fun z => nb (or_bit_n.mp z))
          exact my_precedes hW hm hi (fun z => ne z.symm) hfr (hF m hm hb').1 ha (hF m hm hb').2 (hF i hi hbi).2 (fun hz => br_f (by decide) (nm_r (nI_1 i) (k2 1 (Or.inl ⟨rfl, lt_s h (fun _ _ => hz)⟩)))) (fun hz => br_t rfl (nm_r (nI_1 i) (k2 0 (Or.inr ⟨rfl, fun w => hz (w.2 i hi ne hbi)⟩))))
        · exact br_t rfl (br_t rfl (nm_r (nI_1 m) (k () (lt_s hI h))))
end
