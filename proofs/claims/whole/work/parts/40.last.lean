/-! call -/
theorem i_vc_call {k : Nat} {u : SX} {v : SY} (I : i_Rel k u v) (hk : k + 9 ≤ 4608) (v1 : Int32) (a1 : Int64) (a2 : Int64) (a3 : Int64) : wpX_call (fun r u' => wpY_call (fun r' v' => r' = r ∧ i_Rel (k + 9) u' v') v v1 a1 a2 a3) u v1 a1 a2 a3 := by
  obtain ⟨x_classCount, x_superCount, x_objectCount, x_draftSpecialCount, x_state, x_stepCount, x_latestValue, x_enterGeneric, x_enterPlace, x_frameCount, x_operatorCount, x_valueCount, x_lineClass, x_lineLength, x_isSealed, x_classHasSlot, x_classSlot, x_superDraft, x_objectClass, x_objectHasSlot, x_objectSlot, x_parameterCount, x_methodGeneric, x_specialiser, x_tokenKind, x_tokenValue, x_tokenCount, x_argument, x_rank, x_orderPlace, x_frameMethod, x_framePlace, x_frameToken, x_frameOperators, x_frameArgument, x_operatorKind, x_operatorValue, x_operatorLeft, x_workedOut⟩ := u
  obtain ⟨y_classes, y_supers, y_objects, y_specials, y_depth, y_ops, y_held, y_fault, y_steps, y_shownSteps, y_result, y_line, y_lineLength, y_has, y_sealed, y_initial, y_drafted, y_draftHas, y_draftInitial, y_lists, y_listLength, y_gone, y_classOfObject, y_slots, y_parameters, y_generic, y_single, y_special, y_kind, y_tokens, y_with, y_methodAt, y_pc, y_chosen, y_many, y_reached, y_opsAt, y_broken, y_arguments, y_operands, y_operator, y_got⟩ := v
  obtain ⟨nc, no, ns, nd, rfl, rfl, rfl, rfl, rfl, rfl, rfl, rfl, rfl, rfl, rfl, rfl, rfl, rfl, rfl, rfl, rfl, rfl, rfl, rfl, hcls, hsup, hslt, hobj, hpar, hgen, htok, hbod, hspc, hunq⟩ := I
  have J : ∀ (ag : Nat → Int64), i_Rel (k + 9) (nI nc, nI ns, nI no, nI nd, x_state, x_stepCount, x_latestValue, x_enterGeneric, x_enterPlace, x_frameCount, x_operatorCount, x_valueCount, x_lineClass, x_lineLength, x_isSealed, x_classHasSlot, x_classSlot, x_superDraft, x_objectClass, x_objectHasSlot, x_objectSlot, x_parameterCount, x_methodGeneric, x_specialiser, x_tokenKind, x_tokenValue, x_tokenCount, ag, x_rank, x_orderPlace, x_frameMethod, x_framePlace, x_frameToken, x_frameOperators, x_frameArgument, x_operatorKind, x_operatorValue, x_operatorLeft, x_workedOut) (nI nc, nI ns, nI no, nI nd, y_depth, y_ops, y_held, y_fault, y_steps, x_stepCount, x_latestValue, x_lineClass, x_lineLength, y_has, x_isSealed, y_initial, x_superDraft, y_draftHas, y_draftInitial, y_lists, y_listLength, y_gone, x_objectClass, y_slots, x_parameterCount, x_methodGeneric, y_single, y_special, x_tokenKind, x_tokenCount, x_tokenValue, y_methodAt, y_pc, y_chosen, y_many, y_reached, y_opsAt, y_broken, y_arguments, y_operands, y_operator, y_got) := fun ag => ⟨nc, no, ns, nd, rfl, rfl, rfl, rfl, rfl, rfl, rfl, rfl, rfl, rfl, rfl, rfl, rfl, rfl, rfl, rfl, rfl, rfl, rfl, rfl, hcls, hsup, hslt, hobj, hpar, hgen, htok, hbod, hspc, hunq⟩
  have hn : nc ≤ 16 := hcls.2.1
  have hno := hobj.1
  rcases bs_ar2 v1 (n := 5) (by omega) with h | ⟨g, hg, rfl⟩
  · unfold wpX_call
    unfold wpX_takeArguments
    refine mx_isGeneric_f h (br_t rfl (br_t rfl ?_))
    unfold wpY_call
    unfold wpY_callable
    exact my_out_f (q := 5) h (br_f (by decide) (br_t rfl ⟨rfl, J _⟩))
  · obtain ⟨p, hp1, hp3, ep⟩ := hpar g hg
    unfold wpX_call
    refine mx_takeArguments hno hg hp3 ep (fun hv => br_f (by decide) ?_) (fun hv => br_t rfl ?_)
    · have hC : cm_C nc no ns nd x_lineClass x_lineLength x_methodGeneric x_parameterCount x_specialiser x_tokenKind x_tokenValue x_tokenCount x_isSealed x_classHasSlot x_classSlot x_superDraft y_has y_initial y_draftHas y_draftInitial y_lists y_listLength y_gone y_single y_special x_stepCount := ⟨hcls, hsup, hslt, hpar, hgen, htok, hbod, hspc, hunq⟩
      have hfi : cm_fi (cm_A x_parameterCount x_tokenKind x_tokenValue) 0 [] 5 = 3605 := rfl
      refine ⟨3606, ?_⟩
      refine cm_E_call (y_shownSteps := x_stepCount) (y_has := y_has) (y_initial := y_initial) (y_draftHas := y_draftHas) (y_draftInitial := y_draftInitial) (y_lists := y_lists) (y_listLength := y_listLength) (y_gone := y_gone) (y_slots := y_slots) (y_single := y_single) (y_special := y_special) (y_methodAt := y_methodAt) (y_pc := y_pc) (y_chosen := y_chosen) (y_many := y_many) (y_reached := y_reached) (y_opsAt := y_opsAt) (y_broken := y_broken) (y_arguments := y_arguments) (y_operands := y_operands) (y_operator := y_operator) (y_got := y_got) (D := fun post' => wpY_call post' (nI nc, nI ns, nI no, nI nd, y_depth, y_ops, y_held, y_fault, y_steps, x_stepCount, x_latestValue, x_lineClass, x_lineLength, y_has, x_isSealed, y_initial, x_superDraft, y_draftHas, y_draftInitial, y_lists, y_listLength, y_gone, x_objectClass, y_slots, x_parameterCount, x_methodGeneric, y_single, y_special, x_tokenKind, x_tokenCount, x_tokenValue, y_methodAt, y_pc, y_chosen, y_many, y_reached, y_opsAt, y_broken, y_arguments, y_operands, y_operator, y_got) (nI g) a1 a2 a3) (kk := k + 9) (μ := 4000) (K := []) (s := 0) (tt := 0) (ar := ca_tr a1 a2 a3) (ag' := ca_ag y_arguments 0 a1 a2 a3) hC (cm_sim hC 4000).1 (cm_V0 hobj (by omega)) (Nat.le_refl _) hg hp1 hp3 ep hv (fun q hq => ?_) (fun q hq => ca_ag_k (by omega)) (fun j hj => absurd hj (Nat.not_lt_zero j)) (by show 3603 ≤ 4000; omega) (by rw [hfi]; omega) (fun post' he => ?_) 3606 (by rw [hfi]; omega)
      · have e := ca_ag_k (f := x_argument) (b := 0) (x := a1) (y := a2) (z := a3) (k := q) (by omega)
        rw [Nat.zero_add] at e
        exact e
      · obtain ⟨n1, hen⟩ := he
        unfold wpY_call
        refine my_callable hcls.1 hn hno hobj.2.1 hg hp1 hp3 ep (fun _ => br_f (by decide) ?_) (fun z => absurd hv z)
        refine my_bring (lv := 0) (by omega) ?_
        refine hen _ (fun t ht => ?_)
        obtain ⟨z_classes, z_supers, z_objects, z_specials, z_depth, z_ops, z_held, z_fault, z_steps, z_shownSteps, z_result, z_line, z_lineLength, z_has, z_sealed, z_initial, z_drafted, z_draftHas, z_draftInitial, z_lists, z_listLength, z_gone, z_classOfObject, z_slots, z_parameters, z_generic, z_single, z_special, z_kind, z_tokens, z_with, z_methodAt, z_pc, z_chosen, z_many, z_reached, z_opsAt, z_broken, z_arguments, z_operands, z_operator, z_got⟩ := t
        exact ⟨n1, ht⟩
    · unfold wpY_call
      exact my_callable hcls.1 hn hno hobj.2.1 hg hp1 hp3 ep (fun z => absurd z hv) (fun _ => br_t rfl ⟨rfl, J _⟩)
