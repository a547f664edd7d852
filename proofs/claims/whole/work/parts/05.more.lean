/-! slot, seal, line, remove, get -/
theorem ea_slt_j {nc c n : Nat} (hc : c < nc) (hn : n < 4) : 4 * c + n < 4 * nc := by omega
theorem ea_slt_s {nc : Nat} {CH CS HA IN DH DI : Nat → Int32} (h : rl_slt nc CH CS HA IN DH DI) {n : Nat} (hn : n < 4) (z : Int32) : rl_slt nc (upd CH (4 * nc + n) 1) (upd CS (4 * nc + n) z) HA IN (upd DH n 1) (upd DI n z) := by
  obtain ⟨h1, h2, h3, h4⟩ := h
  refine ⟨fun j => ?_, fun j hj => ?_, fun m hm => ?_, fun j hj => ?_⟩
  · by_cases e : j = 4 * nc + n
    · rw [e, pk_us]; exact Or.inr rfl
    · rw [pk_un e]; exact h1 j
  · rw [pk_un (f := CH) (by omega), pk_un (f := CS) (by omega)]; exact h2 j hj
  · by_cases e : m = n
    · rw [e, pk_us, pk_us, pk_us, pk_us]; exact ⟨rfl, fun _ => rfl⟩
    · rw [pk_un (f := DH) e, pk_un (f := DI) e, pk_un (f := CH) (by omega), pk_un (f := CS) (by omega)]; exact h3 m hm
  · rw [pk_un (by omega)]; exact h4 j hj
theorem ea_gen_r {MG : Nat → Int32} (h : rl_gen MG) (m : Nat) : rl_gen (upd MG m (-1)) := by
  intro j hj
  by_cases e : j = m
  · rw [e, pk_us]; exact Or.inl rfl
  · rw [pk_un e]; exact h j hj
theorem ea_bod_r {PC MG TK TV TC : Nat → Int32} (h : rl_bod PC MG TK TV TC) (m : Nat) : rl_bod PC (upd MG m (-1)) TK TV TC := by
  intro j g p t hj hg hp ht h1 h2 h3
  by_cases e : j = m
  · rw [e, pk_us] at h1; exact absurd h1.symm (bs_n1 (by omega))
  · rw [pk_un e] at h1; exact h j g p t hj hg hp ht h1 h2 h3
theorem ea_spc_r {nc no nd : Nat} {MG PC : Nat → Int32} {SP : Nat → Int64} {SI : Nat → Int32} {SG : Nat → Int64} (h : rl_spc nc no nd MG PC SP SI SG) (m : Nat) : rl_spc nc no nd (upd MG m (-1)) PC SP SI SG := by
  refine ⟨h.1, h.2.1, fun j g p hj hg hp h1 h2 => ?_⟩
  by_cases e : j = m
  · rw [e, pk_us] at h1; exact absurd h1.symm (bs_n1 (by omega))
  · rw [pk_un e] at h1; exact h.2.2 j g p hj hg hp h1 h2
theorem ea_unq_r {MG PC : Nat → Int32} {SP : Nat → Int64} (h : rl_unq MG PC SP) (m : Nat) : rl_unq (upd MG m (-1)) PC SP := by
  intro i j g p hi hj hg hp h1 h2 h3 h4
  by_cases e : i = m
  · rw [e, pk_us] at h1; exact absurd h1.symm (bs_n1 (by omega))
  · by_cases e2 : j = m
    · rw [e2, pk_us] at h2; exact absurd h2.symm (bs_n1 (by omega))
    · rw [pk_un e] at h1
      rw [pk_un e2] at h2
      exact h i j g p hi hj hg hp h1 h2 h3 h4
section
variable {x_classCount : Int32} {x_superCount : Int32} {x_objectCount : Int32} {x_draftSpecialCount : Int32} {x_state : Int32} {x_stepCount : Int32} {x_latestValue : Int64} {x_enterGeneric : Int32} {x_enterPlace : Int32} {x_frameCount : Int32} {x_operatorCount : Int32} {x_valueCount : Int32} {x_lineClass : Nat → Int32} {x_lineLength : Nat → Int32} {x_isSealed : Nat → Int32} {x_classHasSlot : Nat → Int32} {x_classSlot : Nat → Int32} {x_superDraft : Nat → Int32} {x_objectClass : Nat → Int32} {x_objectHasSlot : Nat → Int32} {x_objectSlot : Nat → Int64} {x_parameterCount : Nat → Int32} {x_methodGeneric : Nat → Int32} {x_specialiser : Nat → Int64} {x_tokenKind : Nat → Int32} {x_tokenValue : Nat → Int32} {x_tokenCount : Nat → Int32} {x_argument : Nat → Int64} {x_rank : Nat → Int32} {x_orderPlace : Nat → Int32} {x_frameMethod : Nat → Int32} {x_framePlace : Nat → Int32} {x_frameToken : Nat → Int32} {x_frameOperators : Nat → Int32} {x_frameArgument : Nat → Int64} {x_operatorKind : Nat → Int32} {x_operatorValue : Nat → Int32} {x_operatorLeft : Nat → Int32} {x_workedOut : Nat → Int64} {y_classes : Int32} {y_supers : Int32} {y_objects : Int32} {y_specials : Int32} {y_depth : Int32} {y_ops : Int32} {y_held : Int32} {y_fault : Int32} {y_steps : Int32} {y_shownSteps : Int32} {y_result : Int64} {y_line : Nat → Int32} {y_lineLength : Nat → Int32} {y_has : Nat → Int32} {y_sealed : Nat → Int32} {y_initial : Nat → Int32} {y_drafted : Nat → Int32} {y_draftHas : Nat → Int32} {y_draftInitial : Nat → Int32} {y_lists : Nat → Int32} {y_listLength : Nat → Int32} {y_gone : Nat → Int32} {y_classOfObject : Nat → Int32} {y_slots : Nat → Int64} {y_parameters : Nat → Int32} {y_generic : Nat → Int32} {y_single : Nat → Int32} {y_special : Nat → Int64} {y_kind : Nat → Int32} {y_tokens : Nat → Int32} {y_with : Nat → Int32} {y_methodAt : Nat → Int32} {y_pc : Nat → Int32} {y_chosen : Nat → Int32} {y_many : Nat → Int32} {y_reached : Nat → Int32} {y_opsAt : Nat → Int32} {y_broken : Nat → Int32} {y_arguments : Nat → Int64} {y_operands : Nat → Int64} {y_operator : Nat → Int32} {y_got : Nat → Int32}
theorem mx_isSlot_t {post : Int32 → Prop} {c : Nat} (h : c < 4) (hp : post 1) : wpX_isSlot post (x_classCount, x_superCount, x_objectCount, x_draftSpecialCount, x_state, x_stepCount, x_latestValue, x_enterGeneric, x_enterPlace, x_frameCount, x_operatorCount, x_valueCount, x_lineClass, x_lineLength, x_isSealed, x_classHasSlot, x_classSlot, x_superDraft, x_objectClass, x_objectHasSlot, x_objectSlot, x_parameterCount, x_methodGeneric, x_specialiser, x_tokenKind, x_tokenValue, x_tokenCount, x_argument, x_rank, x_orderPlace, x_frameMethod, x_framePlace, x_frameToken, x_frameOperators, x_frameArgument, x_operatorKind, x_operatorValue, x_operatorLeft, x_workedOut) (nI c) :=
  br_f (nI_pos (by omega)) (br_f (nI_ge (b := 4) h (by omega)) hp)
theorem mx_isSlot_f {post : Int32 → Prop} {p : Int32} (h : p < 0 ∨ (¬ p < 0 ∧ nI 4 ≤ p)) (hp : post 0) : wpX_isSlot post (x_classCount, x_superCount, x_objectCount, x_draftSpecialCount, x_state, x_stepCount, x_latestValue, x_enterGeneric, x_enterPlace, x_frameCount, x_operatorCount, x_valueCount, x_lineClass, x_lineLength, x_isSealed, x_classHasSlot, x_classSlot, x_superDraft, x_objectClass, x_objectHasSlot, x_objectSlot, x_parameterCount, x_methodGeneric, x_specialiser, x_tokenKind, x_tokenValue, x_tokenCount, x_argument, x_rank, x_orderPlace, x_frameMethod, x_framePlace, x_frameToken, x_frameOperators, x_frameArgument, x_operatorKind, x_operatorValue, x_operatorLeft, x_workedOut) p := by
  rcases h with h | ⟨h1, h2⟩
  · exact br_t h hp
  · exact br_f h1 (br_t h2 hp)
theorem mx_isGeneric_t {post : Int32 → Prop} {c : Nat} (h : c < 5) (hp : post 1) : wpX_isGeneric post (x_classCount, x_superCount, x_objectCount, x_draftSpecialCount, x_state, x_stepCount, x_latestValue, x_enterGeneric, x_enterPlace, x_frameCount, x_operatorCount, x_valueCount, x_lineClass, x_lineLength, x_isSealed, x_classHasSlot, x_classSlot, x_superDraft, x_objectClass, x_objectHasSlot, x_objectSlot, x_parameterCount, x_methodGeneric, x_specialiser, x_tokenKind, x_tokenValue, x_tokenCount, x_argument, x_rank, x_orderPlace, x_frameMethod, x_framePlace, x_frameToken, x_frameOperators, x_frameArgument, x_operatorKind, x_operatorValue, x_operatorLeft, x_workedOut) (nI c) :=
  br_f (nI_pos (by omega)) (br_f (nI_ge (b := 5) h (by omega)) hp)
theorem mx_isGeneric_f {post : Int32 → Prop} {p : Int32} (h : p < 0 ∨ (¬ p < 0 ∧ nI 5 ≤ p)) (hp : post 0) : wpX_isGeneric post (x_classCount, x_superCount, x_objectCount, x_draftSpecialCount, x_state, x_stepCount, x_latestValue, x_enterGeneric, x_enterPlace, x_frameCount, x_operatorCount, x_valueCount, x_lineClass, x_lineLength, x_isSealed, x_classHasSlot, x_classSlot, x_superDraft, x_objectClass, x_objectHasSlot, x_objectSlot, x_parameterCount, x_methodGeneric, x_specialiser, x_tokenKind, x_tokenValue, x_tokenCount, x_argument, x_rank, x_orderPlace, x_frameMethod, x_framePlace, x_frameToken, x_frameOperators, x_frameArgument, x_operatorKind, x_operatorValue, x_operatorLeft, x_workedOut) p := by
  rcases h with h | ⟨h1, h2⟩
  · exact br_t h hp
  · exact br_f h1 (br_t h2 hp)
end
theorem i_vc_slot {k : Nat} {u : SX} {v : SY} (I : i_Rel k u v) (hk : k + 9 ≤ 4608) (v1 : Int32) (v2 : Int32) : wpX_slot (fun r u' => wpY_slot (fun r' v' => r' = r ∧ i_Rel (k + 9) u' v') v v1 v2) u v1 v2 := by
  obtain ⟨x_classCount, x_superCount, x_objectCount, x_draftSpecialCount, x_state, x_stepCount, x_latestValue, x_enterGeneric, x_enterPlace, x_frameCount, x_operatorCount, x_valueCount, x_lineClass, x_lineLength, x_isSealed, x_classHasSlot, x_classSlot, x_superDraft, x_objectClass, x_objectHasSlot, x_objectSlot, x_parameterCount, x_methodGeneric, x_specialiser, x_tokenKind, x_tokenValue, x_tokenCount, x_argument, x_rank, x_orderPlace, x_frameMethod, x_framePlace, x_frameToken, x_frameOperators, x_frameArgument, x_operatorKind, x_operatorValue, x_operatorLeft, x_workedOut⟩ := u
  obtain ⟨y_classes, y_supers, y_objects, y_specials, y_depth, y_ops, y_held, y_fault, y_steps, y_shownSteps, y_result, y_line, y_lineLength, y_has, y_sealed, y_initial, y_drafted, y_draftHas, y_draftInitial, y_lists, y_listLength, y_gone, y_classOfObject, y_slots, y_parameters, y_generic, y_single, y_special, y_kind, y_tokens, y_with, y_methodAt, y_pc, y_chosen, y_many, y_reached, y_opsAt, y_broken, y_arguments, y_operands, y_operator, y_got⟩ := v
  obtain ⟨nc, no, ns, nd, rfl, rfl, rfl, rfl, rfl, rfl, rfl, rfl, rfl, rfl, rfl, rfl, rfl, rfl, rfl, rfl, rfl, rfl, rfl, rfl, hcls, hsup, hslt, hobj, hpar, hgen, htok, hbod, hspc, hunq⟩ := I
  have J : i_Rel (k + 9) (nI nc, nI ns, nI no, nI nd, x_state, x_stepCount, x_latestValue, x_enterGeneric, x_enterPlace, x_frameCount, x_operatorCount, x_valueCount, x_lineClass, x_lineLength, x_isSealed, x_classHasSlot, x_classSlot, x_superDraft, x_objectClass, x_objectHasSlot, x_objectSlot, x_parameterCount, x_methodGeneric, x_specialiser, x_tokenKind, x_tokenValue, x_tokenCount, x_argument, x_rank, x_orderPlace, x_frameMethod, x_framePlace, x_frameToken, x_frameOperators, x_frameArgument, x_operatorKind, x_operatorValue, x_operatorLeft, x_workedOut) (nI nc, nI ns, nI no, nI nd, y_depth, y_ops, y_held, y_fault, y_steps, x_stepCount, x_latestValue, x_lineClass, x_lineLength, y_has, x_isSealed, y_initial, x_superDraft, y_draftHas, y_draftInitial, y_lists, y_listLength, y_gone, x_objectClass, y_slots, x_parameterCount, x_methodGeneric, y_single, y_special, x_tokenKind, x_tokenCount, x_tokenValue, y_methodAt, y_pc, y_chosen, y_many, y_reached, y_opsAt, y_broken, y_arguments, y_operands, y_operator, y_got) := ⟨nc, no, ns, nd, rfl, rfl, rfl, rfl, rfl, rfl, rfl, rfl, rfl, rfl, rfl, rfl, rfl, rfl, rfl, rfl, rfl, rfl, rfl, rfl, hcls, hsup, hslt, hobj, hpar, hgen, htok, hbod, hspc, hunq⟩
  have hn : nc ≤ 16 := hcls.2.1
  unfold wpX_slot
  rcases bs_ar2 v1 (n := 4) (by omega) with h | ⟨n, hn4, rfl⟩
  · intro x3 _
    refine mx_isSlot_f h (br_t rfl ?_)
    unfold wpY_slot
    exact my_out_f (q := 4) h (br_f (by decide) ⟨rfl, J⟩)
  · refine nm_r (bs_xi 4 nc n) ?_
    refine mx_isSlot_t hn4 (br_f (by decide) ⟨pk_in (4 * nc + n) 68 (by omega), ?_⟩)
    rw [bs_clk (n := 4 * nc + n) (by omega)]
    have hd := hslt.2.2.1 n hn4
    unfold wpY_slot
    refine br_c (fun e => ⟨pk_in (4 * nc + n) 68 (by omega), nm_r (congrArg (upd _ _) bs_z1) ⟨pk_in (4 * nc + n) 68 (by omega), nm_e ?_⟩⟩) (fun e => ?_)
    · refine my_out_t (n := 4) hn4 (by omega) (br_t rfl ⟨pk_in n 4 hn4, ?_⟩)
      rw [bs_clk (n := n) (by omega), hd.1]
      refine br_t e ⟨pk_in n 4 hn4, nm_r (congrArg (upd _ _) bs_z1) ⟨pk_in n 4 hn4, nm_e ⟨rfl, ?_⟩⟩⟩
      exact ⟨nc, no, ns, nd, rfl, rfl, rfl, rfl, rfl, rfl, rfl, rfl, rfl, rfl, rfl, rfl, rfl, rfl, rfl, rfl, rfl, rfl, rfl, rfl, hcls, hsup, ea_slt_s hslt hn4 v2, hobj, hpar, hgen, htok, hbod, hspc, hunq⟩
    · refine my_out_t (n := 4) hn4 (by omega) (br_t rfl ⟨pk_in n 4 hn4, ?_⟩)
      rw [bs_clk (n := n) (by omega), hd.1]
      exact br_f e ⟨rfl, J⟩
theorem i_vc_seal {k : Nat} {u : SX} {v : SY} (I : i_Rel k u v) (hk : k + 9 ≤ 4608) (v1 : Int32) : wpX_seal (fun r u' => wpY_seal (fun r' v' => r' = r ∧ i_Rel (k + 9) u' v') v v1) u v1 := by
  obtain ⟨x_classCount, x_superCount, x_objectCount, x_draftSpecialCount, x_state, x_stepCount, x_latestValue, x_enterGeneric, x_enterPlace, x_frameCount, x_operatorCount, x_valueCount, x_lineClass, x_lineLength, x_isSealed, x_classHasSlot, x_classSlot, x_superDraft, x_objectClass, x_objectHasSlot, x_objectSlot, x_parameterCount, x_methodGeneric, x_specialiser, x_tokenKind, x_tokenValue, x_tokenCount, x_argument, x_rank, x_orderPlace, x_frameMethod, x_framePlace, x_frameToken, x_frameOperators, x_frameArgument, x_operatorKind, x_operatorValue, x_operatorLeft, x_workedOut⟩ := u
  obtain ⟨y_classes, y_supers, y_objects, y_specials, y_depth, y_ops, y_held, y_fault, y_steps, y_shownSteps, y_result, y_line, y_lineLength, y_has, y_sealed, y_initial, y_drafted, y_draftHas, y_draftInitial, y_lists, y_listLength, y_gone, y_classOfObject, y_slots, y_parameters, y_generic, y_single, y_special, y_kind, y_tokens, y_with, y_methodAt, y_pc, y_chosen, y_many, y_reached, y_opsAt, y_broken, y_arguments, y_operands, y_operator, y_got⟩ := v
  obtain ⟨nc, no, ns, nd, rfl, rfl, rfl, rfl, rfl, rfl, rfl, rfl, rfl, rfl, rfl, rfl, rfl, rfl, rfl, rfl, rfl, rfl, rfl, rfl, hcls, hsup, hslt, hobj, hpar, hgen, htok, hbod, hspc, hunq⟩ := I
  have J : i_Rel (k + 9) (nI nc, nI ns, nI no, nI nd, x_state, x_stepCount, x_latestValue, x_enterGeneric, x_enterPlace, x_frameCount, x_operatorCount, x_valueCount, x_lineClass, x_lineLength, x_isSealed, x_classHasSlot, x_classSlot, x_superDraft, x_objectClass, x_objectHasSlot, x_objectSlot, x_parameterCount, x_methodGeneric, x_specialiser, x_tokenKind, x_tokenValue, x_tokenCount, x_argument, x_rank, x_orderPlace, x_frameMethod, x_framePlace, x_frameToken, x_frameOperators, x_frameArgument, x_operatorKind, x_operatorValue, x_operatorLeft, x_workedOut) (nI nc, nI ns, nI no, nI nd, y_depth, y_ops, y_held, y_fault, y_steps, x_stepCount, x_latestValue, x_lineClass, x_lineLength, y_has, x_isSealed, y_initial, x_superDraft, y_draftHas, y_draftInitial, y_lists, y_listLength, y_gone, x_objectClass, y_slots, x_parameterCount, x_methodGeneric, y_single, y_special, x_tokenKind, x_tokenCount, x_tokenValue, y_methodAt, y_pc, y_chosen, y_many, y_reached, y_opsAt, y_broken, y_arguments, y_operands, y_operator, y_got) := ⟨nc, no, ns, nd, rfl, rfl, rfl, rfl, rfl, rfl, rfl, rfl, rfl, rfl, rfl, rfl, rfl, rfl, rfl, rfl, rfl, rfl, rfl, rfl, hcls, hsup, hslt, hobj, hpar, hgen, htok, hbod, hspc, hunq⟩
  have hn : nc ≤ 16 := hcls.2.1
  unfold wpX_seal
  unfold wpY_seal
  rcases bs_ar2 v1 (n := nc) (by omega) with h | ⟨c, hc, rfl⟩
  · exact mx_isClass_f h (br_t rfl (my_out_f h (br_f (by decide) ⟨rfl, J⟩)))
  · refine mx_isClass_t hc hn (br_f (by decide) ⟨pk_in c 16 (by omega), ?_⟩)
    refine br_c (fun e => ⟨pk_in c 16 (by omega), nm_e ?_⟩) (fun e => ?_)
    · refine my_out_t hc (by omega) (br_t rfl ⟨pk_in c 16 (by omega), br_t e ⟨pk_in c 16 (by omega), nm_e ⟨rfl, ?_⟩⟩⟩)
      exact ⟨nc, no, ns, nd, rfl, rfl, rfl, rfl, rfl, rfl, rfl, rfl, rfl, rfl, rfl, rfl, rfl, rfl, rfl, rfl, rfl, rfl, rfl, rfl, hcls, hsup, hslt, hobj, hpar, hgen, htok, hbod, hspc, hunq⟩
    · exact my_out_t hc (by omega) (br_t rfl ⟨pk_in c 16 (by omega), br_f e ⟨rfl, J⟩⟩)
theorem i_vc_line {k : Nat} {u : SX} {v : SY} (I : i_Rel k u v) (hk : k + 9 ≤ 4608) (v1 : Int32) (v2 : Int32) : wpX_line (fun r => wpY_line (fun r' => r' = r ∧ i_Rel (k + 9) u v) v v1 v2) u v1 v2 := by
  obtain ⟨x_classCount, x_superCount, x_objectCount, x_draftSpecialCount, x_state, x_stepCount, x_latestValue, x_enterGeneric, x_enterPlace, x_frameCount, x_operatorCount, x_valueCount, x_lineClass, x_lineLength, x_isSealed, x_classHasSlot, x_classSlot, x_superDraft, x_objectClass, x_objectHasSlot, x_objectSlot, x_parameterCount, x_methodGeneric, x_specialiser, x_tokenKind, x_tokenValue, x_tokenCount, x_argument, x_rank, x_orderPlace, x_frameMethod, x_framePlace, x_frameToken, x_frameOperators, x_frameArgument, x_operatorKind, x_operatorValue, x_operatorLeft, x_workedOut⟩ := u
  obtain ⟨y_classes, y_supers, y_objects, y_specials, y_depth, y_ops, y_held, y_fault, y_steps, y_shownSteps, y_result, y_line, y_lineLength, y_has, y_sealed, y_initial, y_drafted, y_draftHas, y_draftInitial, y_lists, y_listLength, y_gone, y_classOfObject, y_slots, y_parameters, y_generic, y_single, y_special, y_kind, y_tokens, y_with, y_methodAt, y_pc, y_chosen, y_many, y_reached, y_opsAt, y_broken, y_arguments, y_operands, y_operator, y_got⟩ := v
  obtain ⟨nc, no, ns, nd, rfl, rfl, rfl, rfl, rfl, rfl, rfl, rfl, rfl, rfl, rfl, rfl, rfl, rfl, rfl, rfl, rfl, rfl, rfl, rfl, hcls, hsup, hslt, hobj, hpar, hgen, htok, hbod, hspc, hunq⟩ := I
  have J : i_Rel (k + 9) (nI nc, nI ns, nI no, nI nd, x_state, x_stepCount, x_latestValue, x_enterGeneric, x_enterPlace, x_frameCount, x_operatorCount, x_valueCount, x_lineClass, x_lineLength, x_isSealed, x_classHasSlot, x_classSlot, x_superDraft, x_objectClass, x_objectHasSlot, x_objectSlot, x_parameterCount, x_methodGeneric, x_specialiser, x_tokenKind, x_tokenValue, x_tokenCount, x_argument, x_rank, x_orderPlace, x_frameMethod, x_framePlace, x_frameToken, x_frameOperators, x_frameArgument, x_operatorKind, x_operatorValue, x_operatorLeft, x_workedOut) (nI nc, nI ns, nI no, nI nd, y_depth, y_ops, y_held, y_fault, y_steps, x_stepCount, x_latestValue, x_lineClass, x_lineLength, y_has, x_isSealed, y_initial, x_superDraft, y_draftHas, y_draftInitial, y_lists, y_listLength, y_gone, x_objectClass, y_slots, x_parameterCount, x_methodGeneric, y_single, y_special, x_tokenKind, x_tokenCount, x_tokenValue, y_methodAt, y_pc, y_chosen, y_many, y_reached, y_opsAt, y_broken, y_arguments, y_operands, y_operator, y_got) := ⟨nc, no, ns, nd, rfl, rfl, rfl, rfl, rfl, rfl, rfl, rfl, rfl, rfl, rfl, rfl, rfl, rfl, rfl, rfl, rfl, rfl, rfl, rfl, hcls, hsup, hslt, hobj, hpar, hgen, htok, hbod, hspc, hunq⟩
  have hn : nc ≤ 16 := hcls.2.1
  unfold wpX_line
  rcases bs_ar2 v1 (n := nc) (by omega) with h | ⟨c, hc, rfl⟩
  · refine mx_isClass_f h (br_t rfl ?_)
    unfold wpY_line
    exact my_out_f h (br_f (by decide) ⟨rfl, J⟩)
  · refine mx_isClass_t hc hn (br_f (by decide) ?_)
    obtain ⟨l, hl, el, _⟩ := hcls.2.2 c hc
    have ec : x_lineLength (nI c).toNatClampNeg = nI l := by rw [bs_clk (by omega)]; exact el
    rcases bs_ar2 v2 (n := l) (by omega) with h | ⟨i, hi, rfl⟩
    · have fin : wpY_line (fun r' => r' = (-1 : Int32) ∧ i_Rel (k + 9) (nI nc, nI ns, nI no, nI nd, x_state, x_stepCount, x_latestValue, x_enterGeneric, x_enterPlace, x_frameCount, x_operatorCount, x_valueCount, x_lineClass, x_lineLength, x_isSealed, x_classHasSlot, x_classSlot, x_superDraft, x_objectClass, x_objectHasSlot, x_objectSlot, x_parameterCount, x_methodGeneric, x_specialiser, x_tokenKind, x_tokenValue, x_tokenCount, x_argument, x_rank, x_orderPlace, x_frameMethod, x_framePlace, x_frameToken, x_frameOperators, x_frameArgument, x_operatorKind, x_operatorValue, x_operatorLeft, x_workedOut) (nI nc, nI ns, nI no, nI nd, y_depth, y_ops, y_held, y_fault, y_steps, x_stepCount, x_latestValue, x_lineClass, x_lineLength, y_has, x_isSealed, y_initial, x_superDraft, y_draftHas, y_draftInitial, y_lists, y_listLength, y_gone, x_objectClass, y_slots, x_parameterCount, x_methodGeneric, y_single, y_special, x_tokenKind, x_tokenCount, x_tokenValue, y_methodAt, y_pc, y_chosen, y_many, y_reached, y_opsAt, y_broken, y_arguments, y_operands, y_operator, y_got)) (nI nc, nI ns, nI no, nI nd, y_depth, y_ops, y_held, y_fault, y_steps, x_stepCount, x_latestValue, x_lineClass, x_lineLength, y_has, x_isSealed, y_initial, x_superDraft, y_draftHas, y_draftInitial, y_lists, y_listLength, y_gone, x_objectClass, y_slots, x_parameterCount, x_methodGeneric, y_single, y_special, x_tokenKind, x_tokenCount, x_tokenValue, y_methodAt, y_pc, y_chosen, y_many, y_reached, y_opsAt, y_broken, y_arguments, y_operands, y_operator, y_got) (nI c) v2 := by
        unfold wpY_line
        refine my_out_t hc (by omega) (br_t rfl ⟨pk_in c 16 (by omega), ?_⟩)
        rw [ec]
        exact my_out_f h (br_f (by decide) ⟨rfl, J⟩)
      rcases h with h | ⟨h1, h2⟩
      · exact br_t h fin
      · refine br_f h1 ⟨pk_in c 16 (by omega), ?_⟩
        rw [ec]
        exact br_f (fun z => absurd z (Int32.not_lt.mpr h2)) fin
    · refine br_f (nI_pos (by omega)) ⟨pk_in c 16 (by omega), ?_⟩
      rw [ec]
      refine br_t (nI_lt hi (by omega)) ⟨pk_in (16 * c + i) 256 (by omega) (bs_xi 16 c i), ?_⟩
      unfold wpY_line
      refine my_out_t hc (by omega) (br_t rfl ⟨pk_in c 16 (by omega), ?_⟩)
      rw [ec]
      refine my_out_t hi (by omega) (br_t rfl ⟨pk_in (16 * c + i) 256 (by omega) (bs_ix 16 c i), ?_, J⟩)
      rw [bs_xi 16 c i, bs_ix 16 c i]
theorem i_vc_remove {k : Nat} {u : SX} {v : SY} (I : i_Rel k u v) (hk : k + 9 ≤ 4608) (v1 : Int32) : wpX_remove (fun r u' => wpY_remove (fun r' v' => r' = r ∧ i_Rel (k + 9) u' v') v v1) u v1 := by
  obtain ⟨x_classCount, x_superCount, x_objectCount, x_draftSpecialCount, x_state, x_stepCount, x_latestValue, x_enterGeneric, x_enterPlace, x_frameCount, x_operatorCount, x_valueCount, x_lineClass, x_lineLength, x_isSealed, x_classHasSlot, x_classSlot, x_superDraft, x_objectClass, x_objectHasSlot, x_objectSlot, x_parameterCount, x_methodGeneric, x_specialiser, x_tokenKind, x_tokenValue, x_tokenCount, x_argument, x_rank, x_orderPlace, x_frameMethod, x_framePlace, x_frameToken, x_frameOperators, x_frameArgument, x_operatorKind, x_operatorValue, x_operatorLeft, x_workedOut⟩ := u
  obtain ⟨y_classes, y_supers, y_objects, y_specials, y_depth, y_ops, y_held, y_fault, y_steps, y_shownSteps, y_result, y_line, y_lineLength, y_has, y_sealed, y_initial, y_drafted, y_draftHas, y_draftInitial, y_lists, y_listLength, y_gone, y_classOfObject, y_slots, y_parameters, y_generic, y_single, y_special, y_kind, y_tokens, y_with, y_methodAt, y_pc, y_chosen, y_many, y_reached, y_opsAt, y_broken, y_arguments, y_operands, y_operator, y_got⟩ := v
  obtain ⟨nc, no, ns, nd, rfl, rfl, rfl, rfl, rfl, rfl, rfl, rfl, rfl, rfl, rfl, rfl, rfl, rfl, rfl, rfl, rfl, rfl, rfl, rfl, hcls, hsup, hslt, hobj, hpar, hgen, htok, hbod, hspc, hunq⟩ := I
  have J : i_Rel (k + 9) (nI nc, nI ns, nI no, nI nd, x_state, x_stepCount, x_latestValue, x_enterGeneric, x_enterPlace, x_frameCount, x_operatorCount, x_valueCount, x_lineClass, x_lineLength, x_isSealed, x_classHasSlot, x_classSlot, x_superDraft, x_objectClass, x_objectHasSlot, x_objectSlot, x_parameterCount, x_methodGeneric, x_specialiser, x_tokenKind, x_tokenValue, x_tokenCount, x_argument, x_rank, x_orderPlace, x_frameMethod, x_framePlace, x_frameToken, x_frameOperators, x_frameArgument, x_operatorKind, x_operatorValue, x_operatorLeft, x_workedOut) (nI nc, nI ns, nI no, nI nd, y_depth, y_ops, y_held, y_fault, y_steps, x_stepCount, x_latestValue, x_lineClass, x_lineLength, y_has, x_isSealed, y_initial, x_superDraft, y_draftHas, y_draftInitial, y_lists, y_listLength, y_gone, x_objectClass, y_slots, x_parameterCount, x_methodGeneric, y_single, y_special, x_tokenKind, x_tokenCount, x_tokenValue, y_methodAt, y_pc, y_chosen, y_many, y_reached, y_opsAt, y_broken, y_arguments, y_operands, y_operator, y_got) := ⟨nc, no, ns, nd, rfl, rfl, rfl, rfl, rfl, rfl, rfl, rfl, rfl, rfl, rfl, rfl, rfl, rfl, rfl, rfl, rfl, rfl, rfl, rfl, hcls, hsup, hslt, hobj, hpar, hgen, htok, hbod, hspc, hunq⟩
  unfold wpX_remove
  unfold wpY_remove
  rcases bs_ar2 v1 (n := 24) (by omega) with h | ⟨m, hm, rfl⟩
  · rcases h with h | ⟨h1, h2⟩
    · exact br_t h (my_out_f (q := 24) (Or.inl h) (br_f (by decide) ⟨rfl, J⟩))
    · exact br_f h1 (br_t h2 (my_out_f (q := 24) (Or.inr ⟨h1, h2⟩) (br_f (by decide) ⟨rfl, J⟩)))
  · refine br_f (nI_pos (by omega)) (br_f (nI_ge (b := 24) hm (by omega)) ⟨pk_in m 24 hm, ?_⟩)
    rw [bs_clk (n := m) (by omega)]
    rcases hgen m hm with e | ⟨g, hg, e⟩
    · refine br_t e (my_out_t (n := 24) hm (by omega) (br_t rfl ⟨pk_in m 24 hm, ?_⟩))
      rw [e]
      exact br_f (by decide) ⟨rfl, J⟩
    · refine br_f (by rw [e]; exact bs_n1 (by omega)) ⟨pk_in m 24 hm, nm_e ?_⟩
      refine my_out_t (n := 24) hm (by omega) (br_t rfl ⟨pk_in m 24 hm, ?_⟩)
      rw [e]
      refine br_t (bs_ge0 (by omega)) ⟨pk_in m 24 hm, nm_r (congrArg (upd _ _) bs_vm1) ⟨rfl, ?_⟩⟩
      exact ⟨nc, no, ns, nd, rfl, rfl, rfl, rfl, rfl, rfl, rfl, rfl, rfl, rfl, rfl, rfl, rfl, rfl, rfl, rfl, rfl, rfl, rfl, rfl, hcls, hsup, hslt, hobj, hpar, ea_gen_r hgen m, htok, ea_bod_r hbod m, ea_spc_r hspc m, ea_unq_r hunq m⟩
theorem i_vc_get {k : Nat} {u : SX} {v : SY} (I : i_Rel k u v) (hk : k + 9 ≤ 4608) (v1 : Int32) (v2 : Int32) : wpX_get (fun r => wpY_get (fun r' => r' = r ∧ i_Rel (k + 9) u v) v v1 v2) u v1 v2 := by
  obtain ⟨x_classCount, x_superCount, x_objectCount, x_draftSpecialCount, x_state, x_stepCount, x_latestValue, x_enterGeneric, x_enterPlace, x_frameCount, x_operatorCount, x_valueCount, x_lineClass, x_lineLength, x_isSealed, x_classHasSlot, x_classSlot, x_superDraft, x_objectClass, x_objectHasSlot, x_objectSlot, x_parameterCount, x_methodGeneric, x_specialiser, x_tokenKind, x_tokenValue, x_tokenCount, x_argument, x_rank, x_orderPlace, x_frameMethod, x_framePlace, x_frameToken, x_frameOperators, x_frameArgument, x_operatorKind, x_operatorValue, x_operatorLeft, x_workedOut⟩ := u
  obtain ⟨y_classes, y_supers, y_objects, y_specials, y_depth, y_ops, y_held, y_fault, y_steps, y_shownSteps, y_result, y_line, y_lineLength, y_has, y_sealed, y_initial, y_drafted, y_draftHas, y_draftInitial, y_lists, y_listLength, y_gone, y_classOfObject, y_slots, y_parameters, y_generic, y_single, y_special, y_kind, y_tokens, y_with, y_methodAt, y_pc, y_chosen, y_many, y_reached, y_opsAt, y_broken, y_arguments, y_operands, y_operator, y_got⟩ := v
  obtain ⟨nc, no, ns, nd, rfl, rfl, rfl, rfl, rfl, rfl, rfl, rfl, rfl, rfl, rfl, rfl, rfl, rfl, rfl, rfl, rfl, rfl, rfl, rfl, hcls, hsup, hslt, hobj, hpar, hgen, htok, hbod, hspc, hunq⟩ := I
  have J : i_Rel (k + 9) (nI nc, nI ns, nI no, nI nd, x_state, x_stepCount, x_latestValue, x_enterGeneric, x_enterPlace, x_frameCount, x_operatorCount, x_valueCount, x_lineClass, x_lineLength, x_isSealed, x_classHasSlot, x_classSlot, x_superDraft, x_objectClass, x_objectHasSlot, x_objectSlot, x_parameterCount, x_methodGeneric, x_specialiser, x_tokenKind, x_tokenValue, x_tokenCount, x_argument, x_rank, x_orderPlace, x_frameMethod, x_framePlace, x_frameToken, x_frameOperators, x_frameArgument, x_operatorKind, x_operatorValue, x_operatorLeft, x_workedOut) (nI nc, nI ns, nI no, nI nd, y_depth, y_ops, y_held, y_fault, y_steps, x_stepCount, x_latestValue, x_lineClass, x_lineLength, y_has, x_isSealed, y_initial, x_superDraft, y_draftHas, y_draftInitial, y_lists, y_listLength, y_gone, x_objectClass, y_slots, x_parameterCount, x_methodGeneric, y_single, y_special, x_tokenKind, x_tokenCount, x_tokenValue, y_methodAt, y_pc, y_chosen, y_many, y_reached, y_opsAt, y_broken, y_arguments, y_operands, y_operator, y_got) := ⟨nc, no, ns, nd, rfl, rfl, rfl, rfl, rfl, rfl, rfl, rfl, rfl, rfl, rfl, rfl, rfl, rfl, rfl, rfl, rfl, rfl, rfl, rfl, hcls, hsup, hslt, hobj, hpar, hgen, htok, hbod, hspc, hunq⟩
  have hno := hobj.1
  unfold wpX_get
  unfold wpY_get
  rcases bs_ar2 v1 (n := no) (by omega) with h | ⟨q, hq, rfl⟩
  · rcases h with h | ⟨h1, h2⟩
    · exact br_t h (my_out_f (Or.inl h) (br_f (by decide) ⟨rfl, J⟩))
    · exact br_f h1 (br_t h2 (my_out_f (Or.inr ⟨h1, h2⟩) (br_f (by decide) ⟨rfl, J⟩)))
  · refine br_f (nI_pos (by omega)) (br_f (nI_ge hq (by omega)) ?_)
    rcases bs_ar2 v2 (n := 4) (by omega) with h | ⟨n, hn4, rfl⟩
    · exact mx_isSlot_f h (br_t rfl (my_out_t hq (by omega) (br_t rfl (my_out_f (q := 4) h (br_f (by decide) ⟨rfl, J⟩)))))
    · refine mx_isSlot_t hn4 (br_f (by decide) ⟨pk_in (4 * q + n) 80 (by omega) (bs_xi 4 q n), ?_⟩)
      rw [bs_xi 4 q n, bs_clk (n := 4 * q + n) (by omega)]
      rcases hobj.2.2 (4 * q + n) (by omega) with ⟨e1, e2⟩ | ⟨e1, e2, _⟩
      · refine br_t e1 (my_out_t hq (by omega) (br_t rfl (my_out_t (n := 4) hn4 (by omega) (br_t rfl ⟨pk_in (4 * q + n) 80 (by omega) (bs_ix 4 q n), ?_, J⟩))))
        rw [bs_ix 4 q n, bs_clk (n := 4 * q + n) (by omega), e2]
      · refine br_f (by rw [e1]; decide) ⟨pk_in (4 * q + n) 80 (by omega), my_out_t hq (by omega) (br_t rfl (my_out_t (n := 4) hn4 (by omega) (br_t rfl ⟨pk_in (4 * q + n) 80 (by omega) (bs_ix 4 q n), ?_, J⟩)))⟩
        rw [bs_ix 4 q n, bs_clk (n := 4 * q + n) (by omega), e2]
