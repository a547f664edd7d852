/-! how many operands; the end of an expression -/
theorem pa_det {A : Nat → Nat} : ∀ (d d' pc q : Nat), rl_pn A d pc q → rl_pn A d' pc q → d = d' := by
  intro d
  induction d with
  | zero =>
    intro d' pc q h h'
    have e : q = 0 := h
    subst e
    cases d' with
    | zero => rfl
    | succ d' =>
      obtain ⟨k', e, _⟩ := h'
      omega
  | succ d ih =>
    rintro d' pc q ⟨k', e, h⟩ h'
    subst e
    cases d' with
    | zero =>
      have e : k' + 1 = 0 := h'
      omega
    | succ d' =>
      obtain ⟨k2, e2, h2⟩ := h'
      have e3 : k2 = k' := by omega
      subst e3
      rw [ih d' (pc + 1) _ h h2]
theorem pa_split {A : Nat → Nat} : ∀ (d pc a b : Nat), rl_pn A d pc (a + b) → ∃ s, s ≤ d ∧ rl_pn A s pc a ∧ rl_pn A (d - s) (pc + s) b := by
  intro d
  induction d with
  | zero =>
    intro pc a b h
    have e : a + b = 0 := h
    exact ⟨0, Nat.le_refl _, (show a = 0 by omega), (show b = 0 by omega)⟩
  | succ d ih =>
    rintro pc a b ⟨k', e, h⟩
    cases a with
    | zero =>
      refine ⟨0, Nat.zero_le _, rfl, k', by omega, h⟩
    | succ a =>
      have e2 : k' = a + b := by omega
      subst e2
      rw [show a + b + A pc = (a + A pc) + b by omega] at h
      obtain ⟨s, hs, h1, h2⟩ := ih (pc + 1) _ _ h
      refine ⟨s + 1, by omega, ⟨a, rfl, h1⟩, ?_⟩
      rw [show d + 1 - (s + 1) = d - s by omega, show pc + (s + 1) = pc + 1 + s by omega]
      exact h2
theorem pa_zero {A : Nat → Nat} {d pc : Nat} (h : rl_pn A d pc 0) : d = 0 := pa_det d 0 pc 0 h rfl
theorem pa_ar3 {nc : Nat} {PC : Nat → Int32} {k v : Int32} (hpar : rl_par PC) (h : rl_tk nc k v) : rl_ar PC k v ≤ 3 := by
  obtain ⟨q, hq, rfl, _, h3, _⟩ := h
  unfold rl_ar
  by_cases e : nI q = 3
  · rw [if_pos e]
    obtain ⟨a, ha, rfl⟩ := h3 (bs_inj (b := 3) (by omega) (by omega) e)
    obtain ⟨p, hp1, hp3, ep⟩ := hpar a ha
    rw [bs_clk (by omega), ep, bs_clk (by omega)]
    exact hp3
  · rw [if_neg e]
    repeat' split
    all_goals omega
section
variable {x_classCount : Int32} {x_superCount : Int32} {x_objectCount : Int32} {x_draftSpecialCount : Int32} {x_state : Int32} {x_stepCount : Int32} {x_latestValue : Int64} {x_enterGeneric : Int32} {x_enterPlace : Int32} {x_frameCount : Int32} {x_operatorCount : Int32} {x_valueCount : Int32} {x_lineClass : Nat → Int32} {x_lineLength : Nat → Int32} {x_isSealed : Nat → Int32} {x_classHasSlot : Nat → Int32} {x_classSlot : Nat → Int32} {x_superDraft : Nat → Int32} {x_objectClass : Nat → Int32} {x_objectHasSlot : Nat → Int32} {x_objectSlot : Nat → Int64} {x_parameterCount : Nat → Int32} {x_methodGeneric : Nat → Int32} {x_specialiser : Nat → Int64} {x_tokenKind : Nat → Int32} {x_tokenValue : Nat → Int32} {x_tokenCount : Nat → Int32} {x_argument : Nat → Int64} {x_rank : Nat → Int32} {x_orderPlace : Nat → Int32} {x_frameMethod : Nat → Int32} {x_framePlace : Nat → Int32} {x_frameToken : Nat → Int32} {x_frameOperators : Nat → Int32} {x_frameArgument : Nat → Int64} {x_operatorKind : Nat → Int32} {x_operatorValue : Nat → Int32} {x_operatorLeft : Nat → Int32} {x_workedOut : Nat → Int64} {y_classes : Int32} {y_supers : Int32} {y_objects : Int32} {y_specials : Int32} {y_depth : Int32} {y_ops : Int32} {y_held : Int32} {y_fault : Int32} {y_steps : Int32} {y_shownSteps : Int32} {y_result : Int64} {y_line : Nat → Int32} {y_lineLength : Nat → Int32} {y_has : Nat → Int32} {y_sealed : Nat → Int32} {y_initial : Nat → Int32} {y_drafted : Nat → Int32} {y_draftHas : Nat → Int32} {y_draftInitial : Nat → Int32} {y_lists : Nat → Int32} {y_listLength : Nat → Int32} {y_gone : Nat → Int32} {y_classOfObject : Nat → Int32} {y_slots : Nat → Int64} {y_parameters : Nat → Int32} {y_generic : Nat → Int32} {y_single : Nat → Int32} {y_special : Nat → Int64} {y_kind : Nat → Int32} {y_tokens : Nat → Int32} {y_with : Nat → Int32} {y_methodAt : Nat → Int32} {y_pc : Nat → Int32} {y_chosen : Nat → Int32} {y_many : Nat → Int32} {y_reached : Nat → Int32} {y_opsAt : Nat → Int32} {y_broken : Nat → Int32} {y_arguments : Nat → Int64} {y_operands : Nat → Int64} {y_operator : Nat → Int32} {y_got : Nat → Int32}
theorem pa_ar_0 (PC : Nat → Int32) (v : Int32) : rl_ar PC (nI 0) v = 0 := rfl
theorem pa_ar_1 (PC : Nat → Int32) (v : Int32) : rl_ar PC (nI 1) v = 0 := rfl
theorem pa_ar_2 (PC : Nat → Int32) (v : Int32) : rl_ar PC (nI 2) v = 0 := rfl
theorem pa_ar_4 (PC : Nat → Int32) (v : Int32) : rl_ar PC (nI 4) v = 1 := rfl
theorem pa_ar_5 (PC : Nat → Int32) (v : Int32) : rl_ar PC (nI 5) v = 2 := rfl
theorem pa_ar_6 (PC : Nat → Int32) (v : Int32) : rl_ar PC (nI 6) v = 2 := rfl
theorem pa_ar_7 (PC : Nat → Int32) (v : Int32) : rl_ar PC (nI 7) v = 2 := rfl
theorem pa_ar_8 (PC : Nat → Int32) (v : Int32) : rl_ar PC (nI 8) v = 2 := rfl
theorem pa_ar_9 (PC : Nat → Int32) (v : Int32) : rl_ar PC (nI 9) v = 3 := rfl
theorem pa_ar_10 (PC : Nat → Int32) (v : Int32) : rl_ar PC (nI 10) v = 2 := rfl
theorem pa_ar_11 (PC : Nat → Int32) (v : Int32) : rl_ar PC (nI 11) v = 1 := rfl
theorem pa_ar_12 (PC : Nat → Int32) (v : Int32) : rl_ar PC (nI 12) v = 0 := rfl
theorem mx_operandCount {post : Int32 → Prop} {nc : Nat} {k v : Int32} (hpar : rl_par x_parameterCount) (h : rl_tk nc k v) (hp : post (nI (rl_ar x_parameterCount k v))) : wpX_operandCount post (x_classCount, x_superCount, x_objectCount, x_draftSpecialCount, x_state, x_stepCount, x_latestValue, x_enterGeneric, x_enterPlace, x_frameCount, x_operatorCount, x_valueCount, x_lineClass, x_lineLength, x_isSealed, x_classHasSlot, x_classSlot, x_superDraft, x_objectClass, x_objectHasSlot, x_objectSlot, x_parameterCount, x_methodGeneric, x_specialiser, x_tokenKind, x_tokenValue, x_tokenCount, x_argument, x_rank, x_orderPlace, x_frameMethod, x_framePlace, x_frameToken, x_frameOperators, x_frameArgument, x_operatorKind, x_operatorValue, x_operatorLeft, x_workedOut) k v := by
  unfold wpX_operandCount
  obtain ⟨q, hq, rfl, _, h3, _⟩ := h
  have hs : q = 0 ∨ q = 1 ∨ q = 2 ∨ q = 3 ∨ q = 4 ∨ q = 5 ∨ q = 6 ∨ q = 7 ∨ q = 8 ∨ q = 9 ∨ q = 10 ∨ q = 11 ∨ q = 12 := by omega
  rcases hs with rfl | rfl | rfl | rfl | rfl | rfl | rfl | rfl | rfl | rfl | rfl | rfl | rfl
  · exact br_t (by decide) hp
  · exact br_t (by decide) hp
  · exact br_t (by decide) hp
  · obtain ⟨a, ha, rfl⟩ := h3 rfl
    obtain ⟨p, hp1, hp3, ep⟩ := hpar a ha
    have e : rl_ar x_parameterCount (nI 3) (nI a) = p := by
      show (x_parameterCount (nI a).toNatClampNeg).toNatClampNeg = p
      rw [bs_clk (by omega), ep, bs_clk (by omega)]
    rw [e, ← ep] at hp
    exact br_f (by decide) (br_f (by decide) (br_t rfl (⟨pk_in a 5 ha, by rw [bs_clk (n := a) (by omega)]; exact hp⟩)))
  · exact br_f (by decide) (br_f (by decide) (br_f (by decide) (br_t rfl (hp))))
  · exact br_f (by decide) (br_f (by decide) (br_f (by decide) (br_f (by decide) (br_t rfl (hp)))))
  · exact br_f (by decide) (br_f (by decide) (br_f (by decide) (br_f (by decide) (br_f (by decide) (br_t rfl (hp))))))
  · exact br_f (by decide) (br_f (by decide) (br_f (by decide) (br_f (by decide) (br_f (by decide) (br_f (by decide) (br_t rfl (hp)))))))
  · exact br_f (by decide) (br_f (by decide) (br_f (by decide) (br_f (by decide) (br_f (by decide) (br_f (by decide) (br_f (by decide) (br_t rfl (hp))))))))
  · exact br_f (by decide) (br_f (by decide) (br_f (by decide) (br_f (by decide) (br_f (by decide) (br_f (by decide) (br_f (by decide) (br_f (by decide) (br_t rfl (hp)))))))))
  · exact br_f (by decide) (br_f (by decide) (br_f (by decide) (br_f (by decide) (br_f (by decide) (br_f (by decide) (br_f (by decide) (br_f (by decide) (br_f (by decide) (br_t rfl (hp))))))))))
  · exact br_f (by decide) (br_f (by decide) (br_f (by decide) (br_f (by decide) (br_f (by decide) (br_f (by decide) (br_f (by decide) (br_f (by decide) (br_f (by decide) (br_f (by decide) (br_t rfl (hp)))))))))))
  · exact br_f (by decide) (br_t (by decide) hp)
theorem my_operandsOf {post : Int32 → Prop} {nc j : Nat} (hj : j < 400) (hpar : rl_par y_parameters) (h : rl_tk nc (y_kind j) (y_with j)) (hp : post (nI (rl_ar y_parameters (y_kind j) (y_with j)))) : wpY_operandsOf post (y_classes, y_supers, y_objects, y_specials, y_depth, y_ops, y_held, y_fault, y_steps, y_shownSteps, y_result, y_line, y_lineLength, y_has, y_sealed, y_initial, y_drafted, y_draftHas, y_draftInitial, y_lists, y_listLength, y_gone, y_classOfObject, y_slots, y_parameters, y_generic, y_single, y_special, y_kind, y_tokens, y_with, y_methodAt, y_pc, y_chosen, y_many, y_reached, y_opsAt, y_broken, y_arguments, y_operands, y_operator, y_got) (nI j) := by
  unfold wpY_operandsOf
  obtain ⟨q, hq, ek, _, h3, _⟩ := h
  have ej : y_kind (nI j).toNatClampNeg = nI q := by rw [bs_clk (by omega)]; exact ek
  rw [ek] at hp
  refine ⟨pk_in j 400 hj, nm_r ej ?_⟩
  have hs : q = 0 ∨ q = 1 ∨ q = 2 ∨ q = 3 ∨ q = 4 ∨ q = 5 ∨ q = 6 ∨ q = 7 ∨ q = 8 ∨ q = 9 ∨ q = 10 ∨ q = 11 ∨ q = 12 := by omega
  rcases hs with rfl | rfl | rfl | rfl | rfl | rfl | rfl | rfl | rfl | rfl | rfl | rfl | rfl
  · exact br_f (by decide) (br_f (by decide) (br_t rfl (hp)))
  · exact br_f (by decide) (br_f (by decide) (br_f (by decide) (br_t rfl (hp))))
  · exact br_f (by decide) (br_f (by decide) (br_f (by decide) (br_f (by decide) (br_t rfl (hp)))))
  · obtain ⟨a, ha, ea⟩ := h3 rfl
    obtain ⟨p, hp1, hp3, ep⟩ := hpar a ha
    have e : rl_ar y_parameters (nI 3) (y_with j) = p := by
      rw [ea]
      show (y_parameters (nI a).toNatClampNeg).toNatClampNeg = p
      rw [bs_clk (by omega), ep, bs_clk (by omega)]
    rw [e, ← ep] at hp
    have ew : y_with (nI j).toNatClampNeg = nI a := by rw [bs_clk (by omega)]; exact ea
    exact br_f (by decide) (br_f (by decide) (br_f (by decide) (br_f (by decide) (br_f (by decide) (br_t rfl (⟨pk_in j 400 hj, pk_in a 5 ha ew, by rw [ew, bs_clk (n := a) (by omega)]; exact hp⟩))))))
  · exact br_f (by decide) (br_f (by decide) (br_f (by decide) (br_f (by decide) (br_f (by decide) (br_f (by decide) (br_t rfl (hp)))))))
  · exact br_f (by decide) (br_f (by decide) (br_f (by decide) (br_f (by decide) (br_f (by decide) (br_f (by decide) (br_f (by decide) (br_t rfl (hp))))))))
  · exact br_f (by decide) (br_f (by decide) (br_f (by decide) (br_f (by decide) (br_f (by decide) (br_f (by decide) (br_f (by decide) (br_f (by decide) (br_t rfl (hp)))))))))
  · exact br_f (by decide) (br_f (by decide) (br_f (by decide) (br_f (by decide) (br_f (by decide) (br_f (by decide) (br_f (by decide) (br_f (by decide) (br_f (by decide) (br_t rfl (hp))))))))))
  · exact br_f (by decide) (br_f (by decide) (br_f (by decide) (br_f (by decide) (br_f (by decide) (br_f (by decide) (br_f (by decide) (br_f (by decide) (br_f (by decide) (br_f (by decide) (br_t rfl (hp)))))))))))
  · exact br_f (by decide) (br_f (by decide) (br_f (by decide) (br_f (by decide) (br_f (by decide) (br_f (by decide) (br_f (by decide) (br_f (by decide) (br_f (by decide) (br_f (by decide) (br_f (by decide) (br_t rfl (hp))))))))))))
  · exact br_f (by decide) (br_f (by decide) (br_f (by decide) (br_f (by decide) (br_f (by decide) (br_f (by decide) (br_f (by decide) (br_f (by decide) (br_f (by decide) (br_f (by decide) (br_f (by decide) (br_f (by decide) (br_t rfl (hp)))))))))))))
  · exact br_f (by decide) (br_f (by decide) (br_f (by decide) (br_f (by decide) (br_f (by decide) (br_f (by decide) (br_f (by decide) (br_f (by decide) (br_f (by decide) (br_f (by decide) (br_f (by decide) (br_f (by decide) (br_f (by decide) (br_t rfl (hp))))))))))))))
  · exact br_f (by decide) (br_f (by decide) (br_f (by decide) (br_f (by decide) (br_f (by decide) (br_f (by decide) (br_f (by decide) (br_f (by decide) (br_f (by decide) (br_f (by decide) (br_f (by decide) (br_f (by decide) (br_f (by decide) (br_f (by decide) (br_t rfl (hp)))))))))))))))
end
theorem pa_step {q a : Nat} : nI (q + 1) + (nI a - 1) = nI (q + a) := by
  have h : nI (q + 1) + (nI a - 1) = (nI (q + 1) - 1) + nI a := by
    rw [Int32.sub_eq_add_neg, Int32.sub_eq_add_neg, Int32.add_assoc, Int32.add_comm (nI a) (-1)]
  rw [h, nI_pred, nI_add]
section
variable {x_classCount : Int32} {x_superCount : Int32} {x_objectCount : Int32} {x_draftSpecialCount : Int32} {x_state : Int32} {x_stepCount : Int32} {x_latestValue : Int64} {x_enterGeneric : Int32} {x_enterPlace : Int32} {x_frameCount : Int32} {x_operatorCount : Int32} {x_valueCount : Int32} {x_lineClass : Nat → Int32} {x_lineLength : Nat → Int32} {x_isSealed : Nat → Int32} {x_classHasSlot : Nat → Int32} {x_classSlot : Nat → Int32} {x_superDraft : Nat → Int32} {x_objectClass : Nat → Int32} {x_objectHasSlot : Nat → Int32} {x_objectSlot : Nat → Int64} {x_parameterCount : Nat → Int32} {x_methodGeneric : Nat → Int32} {x_specialiser : Nat → Int64} {x_tokenKind : Nat → Int32} {x_tokenValue : Nat → Int32} {x_tokenCount : Nat → Int32} {x_argument : Nat → Int64} {x_rank : Nat → Int32} {x_orderPlace : Nat → Int32} {x_frameMethod : Nat → Int32} {x_framePlace : Nat → Int32} {x_frameToken : Nat → Int32} {x_frameOperators : Nat → Int32} {x_frameArgument : Nat → Int64} {x_operatorKind : Nat → Int32} {x_operatorValue : Nat → Int32} {x_operatorLeft : Nat → Int32} {x_workedOut : Nat → Int64} {y_classes : Int32} {y_supers : Int32} {y_objects : Int32} {y_specials : Int32} {y_depth : Int32} {y_ops : Int32} {y_held : Int32} {y_fault : Int32} {y_steps : Int32} {y_shownSteps : Int32} {y_result : Int64} {y_line : Nat → Int32} {y_lineLength : Nat → Int32} {y_has : Nat → Int32} {y_sealed : Nat → Int32} {y_initial : Nat → Int32} {y_drafted : Nat → Int32} {y_draftHas : Nat → Int32} {y_draftInitial : Nat → Int32} {y_lists : Nat → Int32} {y_listLength : Nat → Int32} {y_gone : Nat → Int32} {y_classOfObject : Nat → Int32} {y_slots : Nat → Int64} {y_parameters : Nat → Int32} {y_generic : Nat → Int32} {y_single : Nat → Int32} {y_special : Nat → Int64} {y_kind : Nat → Int32} {y_tokens : Nat → Int32} {y_with : Nat → Int32} {y_methodAt : Nat → Int32} {y_pc : Nat → Int32} {y_chosen : Nat → Int32} {y_many : Nat → Int32} {y_reached : Nat → Int32} {y_opsAt : Nat → Int32} {y_broken : Nat → Int32} {y_arguments : Nat → Int64} {y_operands : Nat → Int64} {y_operator : Nat → Int32} {y_got : Nat → Int32}
theorem mx_endA {post : Int32 → Prop} {nc m t : Nat} (hm : m < 25) (hpar : rl_par x_parameterCount) (ht : t ≤ 16) (et : x_tokenCount m = nI t) (hk : ∀ i, i < t → rl_tk nc (x_tokenKind (16 * m + i)) (x_tokenValue (16 * m + i))) : ∀ (s i q : Nat), 1 ≤ q → q + 3 * s < 1000 → i + s ≤ t → rl_pn (rl_am x_parameterCount x_tokenKind x_tokenValue m) s i q → post (nI (i + s)) → wX_endOfExpression_5 post (nI m) x_classCount x_superCount x_objectCount x_draftSpecialCount x_state x_stepCount x_latestValue x_enterGeneric x_enterPlace x_frameCount x_operatorCount x_valueCount x_lineClass x_lineLength x_isSealed x_classHasSlot x_classSlot x_superDraft x_objectClass x_objectHasSlot x_objectSlot x_parameterCount x_methodGeneric x_specialiser x_tokenKind x_tokenValue x_tokenCount x_argument x_rank x_orderPlace x_frameMethod x_framePlace x_frameToken x_frameOperators x_frameArgument x_operatorKind x_operatorValue x_operatorLeft x_workedOut s (nI q) (nI i) := by
  intro s
  induction s with
  | zero =>
    intro i q h1 _ _ h _
    have e : q = 0 := h
    omega
  | succ s ih =>
    rintro i q h1 hb hi ⟨k', rfl, h⟩ hp
    refine ⟨pk_in m 25 hm, ?_⟩
    rw [bs_clk (n := m) (by omega), et]
    refine br_f (nI_ge (by omega) (by omega)) (nm_r (bs_xi 16 m i) ⟨pk_in (16 * m + i) 400 (by omega), pk_in (16 * m + i) 400 (by omega), ?_⟩)
    rw [bs_clk (n := 16 * m + i) (by omega)]
    have hki := hk i (by omega)
    have h3 := pa_ar3 hpar hki
    refine mx_operandCount hpar hki (nm_r (e' := nI (k' + rl_am x_parameterCount x_tokenKind x_tokenValue m i)) pa_step ?_)
    have ha : rl_am x_parameterCount x_tokenKind x_tokenValue m i ≤ 3 := h3
    refine pk_eq (k' + rl_am x_parameterCount x_tokenKind x_tokenValue m i) 0 (fun e => ?_) (fun e => nm_r (nI_1 i) ?_)
    · rw [e] at h
      have es := pa_zero h
      subst es
      rw [nI_1]
      exact hp
    · refine ih (i + 1) _ (by omega) (by omega) (by omega) h ?_
      rw [show i + 1 + s = i + (s + 1) by omega]
      exact hp
theorem mx_endB {post : Int32 → Prop} {nc m t : Nat} (hm : m < 25) (hpar : rl_par x_parameterCount) (ht : t ≤ 16) (et : x_tokenCount m = nI t) (hk : ∀ i, i < t → rl_tk nc (x_tokenKind (16 * m + i)) (x_tokenValue (16 * m + i))) (hp : ∀ r : Int32, ¬ r = nI t → post r) : ∀ (d i q : Nat), 1 ≤ q → q + 3 * d < 1000 → i + d = t → ¬ rl_pn (rl_am x_parameterCount x_tokenKind x_tokenValue m) d i q → wX_endOfExpression_5 post (nI m) x_classCount x_superCount x_objectCount x_draftSpecialCount x_state x_stepCount x_latestValue x_enterGeneric x_enterPlace x_frameCount x_operatorCount x_valueCount x_lineClass x_lineLength x_isSealed x_classHasSlot x_classSlot x_superDraft x_objectClass x_objectHasSlot x_objectSlot x_parameterCount x_methodGeneric x_specialiser x_tokenKind x_tokenValue x_tokenCount x_argument x_rank x_orderPlace x_frameMethod x_framePlace x_frameToken x_frameOperators x_frameArgument x_operatorKind x_operatorValue x_operatorLeft x_workedOut (d + 1) (nI q) (nI i) := by
  intro d
  induction d with
  | zero =>
    intro i q h1 _ hi h
    refine ⟨pk_in m 25 hm, ?_⟩
    rw [bs_clk (n := m) (by omega), et]
    exact br_t (nI_le (by omega) (by omega)) (hp _ (fun z => bs_n1 (by omega) z.symm))
  | succ d ih =>
    intro i q h1 hb hi h
    obtain ⟨k', rfl⟩ : ∃ k', q = k' + 1 := ⟨q - 1, by omega⟩
    refine ⟨pk_in m 25 hm, ?_⟩
    rw [bs_clk (n := m) (by omega), et]
    refine br_f (nI_ge (by omega) (by omega)) (nm_r (bs_xi 16 m i) ⟨pk_in (16 * m + i) 400 (by omega), pk_in (16 * m + i) 400 (by omega), ?_⟩)
    rw [bs_clk (n := 16 * m + i) (by omega)]
    have hki := hk i (by omega)
    have h3 := pa_ar3 hpar hki
    refine mx_operandCount hpar hki (nm_r (e' := nI (k' + rl_am x_parameterCount x_tokenKind x_tokenValue m i)) pa_step ?_)
    have ha : rl_am x_parameterCount x_tokenKind x_tokenValue m i ≤ 3 := h3
    refine pk_eq (k' + rl_am x_parameterCount x_tokenKind x_tokenValue m i) 0 (fun e => ?_) (fun e => nm_r (nI_1 i) ?_)
    · rw [nI_1]
      refine hp _ (fun z => ?_)
      have ez := bs_inj (by omega) (by omega) z
      have ed : d = 0 := by omega
      subst ed
      exact h ⟨k', rfl, e⟩
    · exact ih (i + 1) _ (by omega) (by omega) (by omega) (fun z => h ⟨k', rfl, z⟩)
theorem my_endA {post : Int32 → Prop} {nc m t : Nat} (hm : m < 25) (hpar : rl_par y_parameters) (ht : t ≤ 16) (hk : ∀ i, i < t → rl_tk nc (y_kind (16 * m + i)) (y_with (16 * m + i))) : ∀ (s i q : Nat), q + 3 * s < 1000 → i + s ≤ t → rl_pn (rl_am y_parameters y_kind y_with m) s i q → post (nI (16 * m + (i + s))) → wY_endOf_5 post (nI (16 * m + t)) y_classes y_supers y_objects y_specials y_depth y_ops y_held y_fault y_steps y_shownSteps y_result y_line y_lineLength y_has y_sealed y_initial y_drafted y_draftHas y_draftInitial y_lists y_listLength y_gone y_classOfObject y_slots y_parameters y_generic y_single y_special y_kind y_tokens y_with y_methodAt y_pc y_chosen y_many y_reached y_opsAt y_broken y_arguments y_operands y_operator y_got (s + 1) (nI q) (nI (16 * m + i)) := by
  intro s
  induction s with
  | zero =>
    intro i q _ _ h hp
    have e : q = 0 := h
    subst e
    exact br_t (by decide) (br_t (by decide) hp)
  | succ s ih =>
    rintro i q hb hi ⟨k', rfl, h⟩ hp
    refine br_f (nI_nle (by omega) (by omega)) (br_f (nI_ge (by omega) (by omega)) ?_)
    have hki := hk i (by omega)
    have h3 := pa_ar3 hpar hki
    refine my_operandsOf (by omega) hpar hki (nm_r (e' := nI (k' + rl_am y_parameters y_kind y_with m i)) pa_step (nm_r (nI_1 _) ?_))
    have ha : rl_am y_parameters y_kind y_with m i ≤ 3 := h3
    refine ih (i + 1) _ (by omega) (by omega) h ?_
    rw [show i + 1 + s = i + (s + 1) by omega]
    exact hp
theorem my_endB {post : Int32 → Prop} {nc m t : Nat} (hm : m < 25) (hpar : rl_par y_parameters) (ht : t ≤ 16) (hk : ∀ i, i < t → rl_tk nc (y_kind (16 * m + i)) (y_with (16 * m + i))) (hp : ∀ r : Int32, ¬ r = nI (16 * m + t) → post r) : ∀ (d i q : Nat), q + 3 * d < 1000 → i + d = t → ¬ rl_pn (rl_am y_parameters y_kind y_with m) d i q → wY_endOf_5 post (nI (16 * m + t)) y_classes y_supers y_objects y_specials y_depth y_ops y_held y_fault y_steps y_shownSteps y_result y_line y_lineLength y_has y_sealed y_initial y_drafted y_draftHas y_draftInitial y_lists y_listLength y_gone y_classOfObject y_slots y_parameters y_generic y_single y_special y_kind y_tokens y_with y_methodAt y_pc y_chosen y_many y_reached y_opsAt y_broken y_arguments y_operands y_operator y_got (d + 1) (nI q) (nI (16 * m + i)) := by
  intro d
  induction d with
  | zero =>
    intro i q hb hi h
    have hq : 0 < q := by
      by_cases e : q = 0
      · exact absurd e h
      · omega
    refine br_f (nI_nle hq (by omega)) (br_t (nI_le (by omega) (by omega)) (br_f (nI_nle hq (by omega)) (hp _ ?_)))
    rw [nI_1]
    intro z
    have := bs_inj (by omega) (by omega) z
    omega
  | succ d ih =>
    intro i q hb hi h
    by_cases e : q = 0
    · subst e
      refine br_t (by decide) (br_t (by decide) (hp _ (fun z => ?_)))
      have := bs_inj (by omega) (by omega) z
      omega
    · obtain ⟨k', rfl⟩ : ∃ k', q = k' + 1 := ⟨q - 1, by omega⟩
      refine br_f (nI_nle (by omega) (by omega)) (br_f (nI_ge (by omega) (by omega)) ?_)
      have hki := hk i (by omega)
      have h3 := pa_ar3 hpar hki
      refine my_operandsOf (by omega) hpar hki (nm_r (e' := nI (k' + rl_am y_parameters y_kind y_with m i)) pa_step (nm_r (nI_1 _) ?_))
      have ha : rl_am y_parameters y_kind y_with m i ≤ 3 := h3
      exact ih (i + 1) _ (by omega) (by omega) (fun z => h ⟨k', rfl, z⟩)
end
