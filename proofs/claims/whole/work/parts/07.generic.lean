/-! generic -/
def ge_bc (TK TV : Nat → Int32) (m t g : Nat) : Prop := ∃ i, i < t ∧ TK (16 * m + i) = 3 ∧ TV (16 * m + i) = nI g
def ge_p (MG TK TV TC : Nat → Int32) (g m : Nat) : Prop := MG m = nI g ∨ (¬ MG m = -1 ∧ ge_bc TK TV m (TC m).toNatClampNeg g)
theorem ge_ar_c {PC PC' : Nat → Int32} {k v : Int32} (h : k = 3 → PC' v.toNatClampNeg = PC v.toNatClampNeg) : rl_ar PC' k v = rl_ar PC k v := by
  unfold rl_ar
  by_cases e : k = 3
  · rw [if_pos e, if_pos e, h e]
  · rw [if_neg e, if_neg e]
section
variable {x_classCount : Int32} {x_superCount : Int32} {x_objectCount : Int32} {x_draftSpecialCount : Int32} {x_state : Int32} {x_stepCount : Int32} {x_latestValue : Int64} {x_enterGeneric : Int32} {x_enterPlace : Int32} {x_frameCount : Int32} {x_operatorCount : Int32} {x_valueCount : Int32} {x_lineClass : Nat → Int32} {x_lineLength : Nat → Int32} {x_isSealed : Nat → Int32} {x_classHasSlot : Nat → Int32} {x_classSlot : Nat → Int32} {x_superDraft : Nat → Int32} {x_objectClass : Nat → Int32} {x_objectHasSlot : Nat → Int32} {x_objectSlot : Nat → Int64} {x_parameterCount : Nat → Int32} {x_methodGeneric : Nat → Int32} {x_specialiser : Nat → Int64} {x_tokenKind : Nat → Int32} {x_tokenValue : Nat → Int32} {x_tokenCount : Nat → Int32} {x_argument : Nat → Int64} {x_rank : Nat → Int32} {x_orderPlace : Nat → Int32} {x_frameMethod : Nat → Int32} {x_framePlace : Nat → Int32} {x_frameToken : Nat → Int32} {x_frameOperators : Nat → Int32} {x_frameArgument : Nat → Int64} {x_operatorKind : Nat → Int32} {x_operatorValue : Nat → Int32} {x_operatorLeft : Nat → Int32} {x_workedOut : Nat → Int64} {y_classes : Int32} {y_supers : Int32} {y_objects : Int32} {y_specials : Int32} {y_depth : Int32} {y_ops : Int32} {y_held : Int32} {y_fault : Int32} {y_steps : Int32} {y_shownSteps : Int32} {y_result : Int64} {y_line : Nat → Int32} {y_lineLength : Nat → Int32} {y_has : Nat → Int32} {y_sealed : Nat → Int32} {y_initial : Nat → Int32} {y_drafted : Nat → Int32} {y_draftHas : Nat → Int32} {y_draftInitial : Nat → Int32} {y_lists : Nat → Int32} {y_listLength : Nat → Int32} {y_gone : Nat → Int32} {y_classOfObject : Nat → Int32} {y_slots : Nat → Int64} {y_parameters : Nat → Int32} {y_generic : Nat → Int32} {y_single : Nat → Int32} {y_special : Nat → Int64} {y_kind : Nat → Int32} {y_tokens : Nat → Int32} {y_with : Nat → Int32} {y_methodAt : Nat → Int32} {y_pc : Nat → Int32} {y_chosen : Nat → Int32} {y_many : Nat → Int32} {y_reached : Nat → Int32} {y_opsAt : Nat → Int32} {y_broken : Nat → Int32} {y_arguments : Nat → Int64} {y_operands : Nat → Int64} {y_operator : Nat → Int32} {y_got : Nat → Int32}
theorem mx_bodyCalls {post : Int32 → Prop} {m t g : Nat} (hm : m < 24) (ht : t ≤ 16) (et : x_tokenCount m = nI t) (h0 : (x_methodGeneric m = -1 ∨ ¬ ge_bc x_tokenKind x_tokenValue m t g) → post 0) (h1 : ¬ x_methodGeneric m = -1 → ge_bc x_tokenKind x_tokenValue m t g → post 1) : wpX_bodyCalls post (x_classCount, x_superCount, x_objectCount, x_draftSpecialCount, x_state, x_stepCount, x_latestValue, x_enterGeneric, x_enterPlace, x_frameCount, x_operatorCount, x_valueCount, x_lineClass, x_lineLength, x_isSealed, x_classHasSlot, x_classSlot, x_superDraft, x_objectClass, x_objectHasSlot, x_objectSlot, x_parameterCount, x_methodGeneric, x_specialiser, x_tokenKind, x_tokenValue, x_tokenCount, x_argument, x_rank, x_orderPlace, x_frameMethod, x_framePlace, x_frameToken, x_frameOperators, x_frameArgument, x_operatorKind, x_operatorValue, x_operatorLeft, x_workedOut) (nI m) (nI g) := by
  unfold wpX_bodyCalls
  refine ⟨pk_in m 24 hm, ?_⟩
  rw [bs_clk (n := m) (by omega)]
  refine br_c (fun e => h0 (Or.inl e)) (fun hne => ?_)
  refine loop_0 (σ := Unit) (fun n i _ => wX_bodyCalls_14 post (nI m) (nI g) x_classCount x_superCount x_objectCount x_draftSpecialCount x_state x_stepCount x_latestValue x_enterGeneric x_enterPlace x_frameCount x_operatorCount x_valueCount x_lineClass x_lineLength x_isSealed x_classHasSlot x_classSlot x_superDraft x_objectClass x_objectHasSlot x_objectSlot x_parameterCount x_methodGeneric x_specialiser x_tokenKind x_tokenValue x_tokenCount x_argument x_rank x_orderPlace x_frameMethod x_framePlace x_frameToken x_frameOperators x_frameArgument x_operatorKind x_operatorValue x_operatorLeft x_workedOut n (nI i)) (fun i _ => ∀ j, j < i → ¬ (x_tokenKind (16 * m + j) = 3 ∧ x_tokenValue (16 * m + j) = nI g)) t () lt_0 ?_ ?_
  · intro n _ hI
    refine ⟨pk_in m 25 (by omega), ?_⟩
    rw [bs_clk (n := m) (by omega), et]
    refine br_t (nI_le (Nat.le_refl _) (by omega)) (h0 (Or.inr ?_))
    rintro ⟨i, hi, h⟩
    exact hI i hi h
  · intro n i _ hi hI k
    refine ⟨pk_in m 25 (by omega), ?_⟩
    rw [bs_clk (n := m) (by omega), et]
    refine br_f (nI_ge hi (by omega)) (nm_r (bs_xi 16 m i) ⟨pk_in (16 * m + i) 400 (by omega), ?_⟩)
    rw [bs_clk (n := 16 * m + i) (by omega)]
    refine br_c (fun e3 => ⟨pk_in (16 * m + i) 400 (by omega), br_c (fun eg => h1 hne ⟨i, hi, e3, eg⟩) (fun ng => nm_r (nI_1 i) (k () (lt_s hI (fun z => ng z.2))))⟩) (fun n3 => nm_r (nI_1 i) (k () (lt_s hI (fun z => n3 z.1))))
theorem mx_generic {post : Int32 → SX → Prop} {nc g p : Nat} (htok : rl_tok nc x_tokenKind x_tokenValue x_tokenCount) (hg : g < 5) (h1 : 1 ≤ p) (h3 : p ≤ 3) (hs : (∃ m, m < 24 ∧ ge_p x_methodGeneric x_tokenKind x_tokenValue x_tokenCount g m) → post (-3) (x_classCount, x_superCount, x_objectCount, x_draftSpecialCount, x_state, x_stepCount, x_latestValue, x_enterGeneric, x_enterPlace, x_frameCount, x_operatorCount, x_valueCount, x_lineClass, x_lineLength, x_isSealed, x_classHasSlot, x_classSlot, x_superDraft, x_objectClass, x_objectHasSlot, x_objectSlot, x_parameterCount, x_methodGeneric, x_specialiser, x_tokenKind, x_tokenValue, x_tokenCount, x_argument, x_rank, x_orderPlace, x_frameMethod, x_framePlace, x_frameToken, x_frameOperators, x_frameArgument, x_operatorKind, x_operatorValue, x_operatorLeft, x_workedOut)) (hw : (∀ m, m < 24 → ¬ ge_p x_methodGeneric x_tokenKind x_tokenValue x_tokenCount g m) → post 0 (x_classCount, x_superCount, x_objectCount, x_draftSpecialCount, x_state, x_stepCount, x_latestValue, x_enterGeneric, x_enterPlace, x_frameCount, x_operatorCount, x_valueCount, x_lineClass, x_lineLength, x_isSealed, x_classHasSlot, x_classSlot, x_superDraft, x_objectClass, x_objectHasSlot, x_objectSlot, upd x_parameterCount g (nI p), x_methodGeneric, x_specialiser, x_tokenKind, x_tokenValue, x_tokenCount, x_argument, x_rank, x_orderPlace, x_frameMethod, x_framePlace, x_frameToken, x_frameOperators, x_frameArgument, x_operatorKind, x_operatorValue, x_operatorLeft, x_workedOut)) : wpX_generic post (x_classCount, x_superCount, x_objectCount, x_draftSpecialCount, x_state, x_stepCount, x_latestValue, x_enterGeneric, x_enterPlace, x_frameCount, x_operatorCount, x_valueCount, x_lineClass, x_lineLength, x_isSealed, x_classHasSlot, x_classSlot, x_superDraft, x_objectClass, x_objectHasSlot, x_objectSlot, x_parameterCount, x_methodGeneric, x_specialiser, x_tokenKind, x_tokenValue, x_tokenCount, x_argument, x_rank, x_orderPlace, x_frameMethod, x_framePlace, x_frameToken, x_frameOperators, x_frameArgument, x_operatorKind, x_operatorValue, x_operatorLeft, x_workedOut) (nI g) (nI p) := by
  unfold wpX_generic
  refine mx_isGeneric_t hg (br_f (by decide) (pk_lt p 1 (fun z => by omega) (fun _ => pk_le p 3 (fun _ => ?_) (fun z => by omega))))
  refine loop_0 (σ := Unit) (fun n i _ => wX_generic_22 post (nI g) (nI p) x_classCount x_superCount x_objectCount x_draftSpecialCount x_state x_stepCount x_latestValue x_enterGeneric x_enterPlace x_frameCount x_operatorCount x_valueCount x_lineClass x_lineLength x_isSealed x_classHasSlot x_classSlot x_superDraft x_objectClass x_objectHasSlot x_objectSlot x_parameterCount x_methodGeneric x_specialiser x_tokenKind x_tokenValue x_tokenCount x_argument x_rank x_orderPlace x_frameMethod x_framePlace x_frameToken x_frameOperators x_frameArgument x_operatorKind x_operatorValue x_operatorLeft x_workedOut n (nI i)) (fun i _ => ∀ j, j < i → ¬ ge_p x_methodGeneric x_tokenKind x_tokenValue x_tokenCount g j) 24 () lt_0 ?_ ?_
  · intro n _ hI
    refine br_t (nI_le (Nat.le_refl _) (by omega)) ⟨pk_in g 5 hg, nm_r ?_ (hw hI)⟩
    rw [bs_clk (by omega)]
  · intro n i _ hi hI k
    refine br_f (nI_ge (b := 24) hi (by omega)) ⟨pk_in i 24 hi, ?_⟩
    rw [bs_clk (n := i) (by omega)]
    refine br_c (fun e => hs ⟨i, hi, Or.inl e⟩) (fun ne => ?_)
    obtain ⟨t, ht, et, _⟩ := htok i (by omega)
    have ect : (x_tokenCount i).toNatClampNeg = t := by rw [et, bs_clk (by omega)]
    refine mx_bodyCalls hi ht et (fun h => br_t rfl (nm_r (nI_1 i) (k () (lt_s hI ?_)))) (fun ha hb => br_f (by decide) (hs ⟨i, hi, Or.inr ⟨ha, by rw [ect]; exact hb⟩⟩))
    rintro (z | ⟨z1, z2⟩)
    · exact ne z
    · rw [ect] at z2
      exact h.elim z1 (fun w => w z2)
theorem my_generic {post : Int32 → SY → Prop} {nc g p : Nat} (htok : rl_tok nc y_kind y_with y_tokens) (hgen : rl_gen y_generic) (hg : g < 5) (h1 : 1 ≤ p) (h3 : p ≤ 3) (hs : (∃ m, m < 24 ∧ ge_p y_generic y_kind y_with y_tokens g m) → post (-3) (y_classes, y_supers, y_objects, y_specials, y_depth, y_ops, y_held, y_fault, y_steps, y_shownSteps, y_result, y_line, y_lineLength, y_has, y_sealed, y_initial, y_drafted, y_draftHas, y_draftInitial, y_lists, y_listLength, y_gone, y_classOfObject, y_slots, y_parameters, y_generic, y_single, y_special, y_kind, y_tokens, y_with, y_methodAt, y_pc, y_chosen, y_many, y_reached, y_opsAt, y_broken, y_arguments, y_operands, y_operator, y_got)) (hw : (∀ m, m < 24 → ¬ ge_p y_generic y_kind y_with y_tokens g m) → post 0 (y_classes, y_supers, y_objects, y_specials, y_depth, y_ops, y_held, y_fault, y_steps, y_shownSteps, y_result, y_line, y_lineLength, y_has, y_sealed, y_initial, y_drafted, y_draftHas, y_draftInitial, y_lists, y_listLength, y_gone, y_classOfObject, y_slots, upd y_parameters g (nI p), y_generic, y_single, y_special, y_kind, y_tokens, y_with, y_methodAt, y_pc, y_chosen, y_many, y_reached, y_opsAt, y_broken, y_arguments, y_operands, y_operator, y_got)) : wpY_generic post (y_classes, y_supers, y_objects, y_specials, y_depth, y_ops, y_held, y_fault, y_steps, y_shownSteps, y_result, y_line, y_lineLength, y_has, y_sealed, y_initial, y_drafted, y_draftHas, y_draftInitial, y_lists, y_listLength, y_gone, y_classOfObject, y_slots, y_parameters, y_generic, y_single, y_special, y_kind, y_tokens, y_with, y_methodAt, y_pc, y_chosen, y_many, y_reached, y_opsAt, y_broken, y_arguments, y_operands, y_operator, y_got) (nI g) (nI p) := by
  unfold wpY_generic
  refine my_out_t (n := 5) hg (by omega) (br_t rfl (pk_lt p 1 (fun z => by omega) (fun _ => pk_le p 3 (fun _ => ?_) (fun z => by omega))))
  refine loop_0 (σ := Unit) (fun n i _ => wY_generic_23 post (nI g) (nI p) y_classes y_supers y_objects y_specials y_depth y_ops y_held y_fault y_steps y_shownSteps y_result y_line y_lineLength y_has y_sealed y_initial y_drafted y_draftHas y_draftInitial y_lists y_listLength y_gone y_classOfObject y_slots y_parameters y_generic y_single y_special y_kind y_tokens y_with y_methodAt y_pc y_chosen y_many y_reached y_opsAt y_broken y_arguments y_operands y_operator y_got n (nI i)) (fun i _ => ∀ j, j < i → ¬ ge_p y_generic y_kind y_with y_tokens g j) 24 () lt_0 ?_ ?_
  · intro n _ hI
    refine br_t (nI_le (Nat.le_refl _) (by omega)) ⟨pk_in g 5 hg, nm_r ?_ (hw hI)⟩
    rw [bs_clk (by omega), bs_vb8 (by omega)]
  · intro n m _ hm hI k
    refine br_f (nI_ge (b := 24) hm (by omega)) ⟨pk_in m 24 hm, ?_⟩
    rw [bs_clk (n := m) (by omega)]
    refine br_c (fun e => hs ⟨m, hm, Or.inl e⟩) (fun ne => ?_)
    obtain ⟨t, ht, et, _⟩ := htok m (by omega)
    have ect : (y_tokens m).toNatClampNeg = t := by rw [et, bs_clk (by omega)]
    refine loop_0 (σ := Unit) (fun n' i _ => wY_generic_45 post (wY_generic_23 post (nI g) (nI p) y_classes y_supers y_objects y_specials y_depth y_ops y_held y_fault y_steps y_shownSteps y_result y_line y_lineLength y_has y_sealed y_initial y_drafted y_draftHas y_draftInitial y_lists y_listLength y_gone y_classOfObject y_slots y_parameters y_generic y_single y_special y_kind y_tokens y_with y_methodAt y_pc y_chosen y_many y_reached y_opsAt y_broken y_arguments y_operands y_operator y_got n) (nI g) (nI p) (nI m) y_classes y_supers y_objects y_specials y_depth y_ops y_held y_fault y_steps y_shownSteps y_result y_line y_lineLength y_has y_sealed y_initial y_drafted y_draftHas y_draftInitial y_lists y_listLength y_gone y_classOfObject y_slots y_parameters y_generic y_single y_special y_kind y_tokens y_with y_methodAt y_pc y_chosen y_many y_reached y_opsAt y_broken y_arguments y_operands y_operator y_got n' (nI i)) (fun i _ => ∀ j, j < i → ¬ (y_kind (16 * m + j) = 3 ∧ y_with (16 * m + j) = nI g)) t () lt_0 ?_ ?_
    · intro n' _ hJ
      refine ⟨pk_in m 25 (by omega), ?_⟩
      rw [bs_clk (n := m) (by omega), et]
      refine br_t (nI_le (Nat.le_refl _) (by omega)) (nm_r (nI_1 m) (k () (lt_s hI ?_)))
      rintro (z | ⟨_, i, hi, z⟩)
      · exact ne z
      · rw [ect] at hi
        exact hJ i hi z
    · intro n' i _ hi hJ k'
      refine ⟨pk_in m 25 (by omega), ?_⟩
      rw [bs_clk (n := m) (by omega), et]
      refine br_f (nI_ge hi (by omega)) ⟨pk_in m 24 hm, ?_⟩
      rcases hgen m hm with em | ⟨g', hg', em⟩
      · rw [em]
        refine br_t (by decide) (nm_r (nI_1 m) (k () (lt_s hI ?_)))
        rintro (z | ⟨z, _⟩)
        · exact ne z
        · exact z em
      · rw [em]
        refine br_f (nI_pos (by omega)) ⟨pk_in (16 * m + i) 400 (by omega) (bs_ix 16 m i), ?_⟩
        rw [bs_ix 16 m i, bs_clk (n := 16 * m + i) (by omega)]
        refine br_c (fun e3 => ⟨pk_in (16 * m + i) 400 (by omega), br_c (fun eg => hs ⟨m, hm, Or.inr ⟨by rw [em]; exact bs_n1 (by omega), i, by rw [ect]; exact hi, e3, eg⟩⟩) (fun ng => nm_r (nI_1 i) (k' () (lt_s hJ (fun z => ng z.2))))⟩) (fun n3 => nm_r (nI_1 i) (k' () (lt_s hJ (fun z => n3 z.1))))
end
theorem i_vc_generic {k : Nat} {u : SX} {v : SY} (I : i_Rel k u v) (hk : k + 9 ≤ 4608) (v1 : Int32) (v2 : Int32) : wpX_generic (fun r u' => wpY_generic (fun r' v' => r' = r ∧ i_Rel (k + 9) u' v') v v1 v2) u v1 v2 := by
  obtain ⟨x_classCount, x_superCount, x_objectCount, x_draftSpecialCount, x_state, x_stepCount, x_latestValue, x_enterGeneric, x_enterPlace, x_frameCount, x_operatorCount, x_valueCount, x_lineClass, x_lineLength, x_isSealed, x_classHasSlot, x_classSlot, x_superDraft, x_objectClass, x_objectHasSlot, x_objectSlot, x_parameterCount, x_methodGeneric, x_specialiser, x_tokenKind, x_tokenValue, x_tokenCount, x_argument, x_rank, x_orderPlace, x_frameMethod, x_framePlace, x_frameToken, x_frameOperators, x_frameArgument, x_operatorKind, x_operatorValue, x_operatorLeft, x_workedOut⟩ := u
  obtain ⟨y_classes, y_supers, y_objects, y_specials, y_depth, y_ops, y_held, y_fault, y_steps, y_shownSteps, y_result, y_line, y_lineLength, y_has, y_sealed, y_initial, y_drafted, y_draftHas, y_draftInitial, y_lists, y_listLength, y_gone, y_classOfObject, y_slots, y_parameters, y_generic, y_single, y_special, y_kind, y_tokens, y_with, y_methodAt, y_pc, y_chosen, y_many, y_reached, y_opsAt, y_broken, y_arguments, y_operands, y_operator, y_got⟩ := v
  obtain ⟨nc, no, ns, nd, rfl, rfl, rfl, rfl, rfl, rfl, rfl, rfl, rfl, rfl, rfl, rfl, rfl, rfl, rfl, rfl, rfl, rfl, rfl, rfl, hcls, hsup, hslt, hobj, hpar, hgen, htok, hbod, hspc, hunq⟩ := I
  have J : i_Rel (k + 9) (nI nc, nI ns, nI no, nI nd, x_state, x_stepCount, x_latestValue, x_enterGeneric, x_enterPlace, x_frameCount, x_operatorCount, x_valueCount, x_lineClass, x_lineLength, x_isSealed, x_classHasSlot, x_classSlot, x_superDraft, x_objectClass, x_objectHasSlot, x_objectSlot, x_parameterCount, x_methodGeneric, x_specialiser, x_tokenKind, x_tokenValue, x_tokenCount, x_argument, x_rank, x_orderPlace, x_frameMethod, x_framePlace, x_frameToken, x_frameOperators, x_frameArgument, x_operatorKind, x_operatorValue, x_operatorLeft, x_workedOut) (nI nc, nI ns, nI no, nI nd, y_depth, y_ops, y_held, y_fault, y_steps, x_stepCount, x_latestValue, x_lineClass, x_lineLength, y_has, x_isSealed, y_initial, x_superDraft, y_draftHas, y_draftInitial, y_lists, y_listLength, y_gone, x_objectClass, y_slots, x_parameterCount, x_methodGeneric, y_single, y_special, x_tokenKind, x_tokenCount, x_tokenValue, y_methodAt, y_pc, y_chosen, y_many, y_reached, y_opsAt, y_broken, y_arguments, y_operands, y_operator, y_got) := ⟨nc, no, ns, nd, rfl, rfl, rfl, rfl, rfl, rfl, rfl, rfl, rfl, rfl, rfl, rfl, rfl, rfl, rfl, rfl, rfl, rfl, rfl, rfl, hcls, hsup, hslt, hobj, hpar, hgen, htok, hbod, hspc, hunq⟩
  rcases bs_ar2 v1 (n := 5) (by omega) with h | ⟨g, hg, rfl⟩
  · unfold wpX_generic
    refine mx_isGeneric_f h (br_t rfl ?_)
    unfold wpY_generic
    exact my_out_f (q := 5) h (br_f (by decide) ⟨rfl, J⟩)
  · by_cases h1 : v2 < 1
    · unfold wpX_generic
      refine mx_isGeneric_t hg (br_f (by decide) (br_t h1 ?_))
      unfold wpY_generic
      exact my_out_t (n := 5) hg (by omega) (br_t rfl (br_t h1 ⟨rfl, J⟩))
    · by_cases h3 : v2 ≤ 3
      · obtain ⟨p, hp, rfl⟩ := nI_of2 (x := v2) (M := 3) (n := 3) (by decide) (fun z => h1 (Int32.lt_trans z (by decide))) h3
        rw [show (1 : Int32) = nI 1 from rfl, nI_ltI (by omega) (by omega)] at h1
        refine mx_generic htok hg (by omega) hp (fun hs => ?_) (fun hw => ?_)
        · exact my_generic htok hgen hg (by omega) hp (fun _ => ⟨rfl, J⟩) (fun hw => by obtain ⟨m, hm, h⟩ := hs; exact absurd h (hw m hm))
        · refine my_generic htok hgen hg (by omega) hp (fun hs => by obtain ⟨m, hm, h⟩ := hs; exact absurd h (hw m hm)) (fun _ => ⟨rfl, ?_⟩)
          refine ⟨nc, no, ns, nd, rfl, rfl, rfl, rfl, rfl, rfl, rfl, rfl, rfl, rfl, rfl, rfl, rfl, rfl, rfl, rfl, rfl, rfl, rfl, rfl, hcls, hsup, hslt, hobj, fun g' hg' => ?_, hgen, htok, ?_, ?_, ?_⟩
          · by_cases e : g' = g
            · rw [e, pk_us]; exact ⟨p, by omega, hp, rfl⟩
            · rw [pk_un e]; exact hpar g' hg'
          · intro m g' p' t hm hg' hp' ht h1' h2' h3'
            have eg : g' ≠ g := fun z => hw m hm (Or.inl (by rw [h1', z]))
            rw [pk_un eg] at h2'
            obtain ⟨b1, b2⟩ := hbod m g' p' t hm hg' hp' ht h1' h2' h3'
            refine ⟨b1, ea_pn_c t 0 1 (fun i _ hi => (ge_ar_c (fun e3 => ?_)).symm) b2⟩
            have ect : (x_tokenCount m).toNatClampNeg = t := by rw [h3', bs_clk (by omega)]
            refine pk_un (fun z => hw m hm (Or.inr ⟨by rw [h1']; exact bs_n1 (by omega), i, by rw [ect]; omega, e3, ?_⟩))
            obtain ⟨t', ht', et', htk⟩ := htok m (by omega)
            rw [h3'] at et'
            have := bs_inj (by omega) (by omega) et'
            obtain ⟨q, hq, eq, _, hq3, _⟩ := htk i (by omega)
            rw [e3] at eq
            have hq3' : q = 3 := (bs_inj (a := 3) (by omega) (by omega) eq).symm
            obtain ⟨a, ha, ea⟩ := hq3 hq3'
            rw [ea, bs_clk (by omega)] at z
            rw [ea, z]
          · refine ⟨hspc.1, hspc.2.1, fun m g' p' hm hg' hp' h1' h2' => ?_⟩
            have eg : g' ≠ g := fun z => hw m hm (Or.inl (by rw [h1', z]))
            rw [pk_un eg] at h2'
            exact hspc.2.2 m g' p' hm hg' hp' h1' h2'
          · intro m n g' p' hm hn hg' hp' h1' h2' h3' h4'
            have eg : g' ≠ g := fun z => hw m hm (Or.inl (by rw [h1', z]))
            rw [pk_un eg] at h3'
            exact hunq m n g' p' hm hn hg' hp' h1' h2' h3' h4'
      · unfold wpX_generic
        refine mx_isGeneric_t hg (br_f (by decide) (br_f h1 (br_f h3 ?_)))
        unfold wpY_generic
        exact my_out_t (n := 5) hg (by omega) (br_t rfl (br_f h1 (br_f h3 ⟨rfl, J⟩)))
