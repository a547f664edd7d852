/-! values, objects: ints, objects, their classes -/
theorem ob_K : (4294967296 : Int64) = lN 4294967296 := by decide
theorem ob_no {no : Nat} (h : no ≤ 20) : (nI no).toInt64 = lN no := nI_l (by omega)
theorem ob_X {no : Nat} (hno : no ≤ 20) {v : Int64} : (¬ v < 4294967296 ∧ ¬ (4294967296 + (nI no).toInt64) ≤ v) ↔ ∃ k, k < no ∧ v = lN (4294967296 + k) := by
  rw [ob_no hno, ob_K, lN_add]
  constructor
  · rintro ⟨h1, h2⟩
    have h0 : ¬ v < 0 := by
      intro z
      apply h1
      rw [Int64.lt_iff_toInt_lt] at z ⊢
      rw [pk_lT (by omega)]
      have : (0 : Int64).toInt = 0 := by decide
      omega
    obtain ⟨j, hj, rfl⟩ := pk_lOf h0
    rw [pk_lLT hj (by omega)] at h1
    rw [pk_lLE (by omega) hj] at h2
    exact ⟨j - 4294967296, by omega, congrArg lN (by omega)⟩
  · rintro ⟨k, hk, rfl⟩
    rw [pk_lLT (by omega) (by omega), pk_lLE (by omega) (by omega)]
    omega
theorem ob_Y {no : Nat} (hno : no ≤ 20) {v : Int64} : (¬ (v - 4294967296) < 0 ∧ (v - 4294967296) < (nI no).toInt64) ↔ ∃ k, k < no ∧ v = lN (4294967296 + k) := by
  rw [ob_no hno, ob_K]
  constructor
  · rintro ⟨h1, h2⟩
    obtain ⟨j, hj, e⟩ := pk_lOf h1
    rw [e, pk_lLT hj (by omega)] at h2
    refine ⟨j, h2, ?_⟩
    have e2 : v - lN 4294967296 + lN 4294967296 = lN j + lN 4294967296 := by rw [e]
    rw [Int64.sub_add_cancel, lN_add] at e2
    rw [e2]
    exact congrArg lN (by omega)
  · rintro ⟨k, hk, rfl⟩
    have e : lN (4294967296 + k) - lN 4294967296 = lN k := by rw [lN_sub (by omega)]; exact congrArg lN (by omega)
    rw [e]
    refine ⟨?_, (pk_lLT (by omega) (by omega)).mpr hk⟩
    rw [Int64.lt_iff_toInt_lt, pk_lT (by omega)]
    have : (0 : Int64).toInt = 0 := by decide
    omega
theorem ob_ix {k : Nat} (hk : k < 20) : (lN (4294967296 + k) - 4294967296).toInt32 = nI k := by
  rw [ob_K, lN_sub (by omega), Nat.add_sub_cancel_left, lN_i]
theorem ob_ni {k : Nat} (hk : k < 20) : ¬ rl_int (lN (4294967296 + k)) := by
  intro h
  have h1 := congrArg Int64.toInt h
  rw [pk_lT (by omega), Int32.toInt_toInt64] at h1
  have h2 := Int32.toInt_lt (lN (4294967296 + k)).toInt32
  omega
theorem ob_inj {a b : Nat} (ha : a < 20) (hb : b < 20) (h : lN (4294967296 + a) = lN (4294967296 + b)) : a = b := by
  have := (pk_lEQ (by omega) (by omega)).mp h
  omega
theorem ob_mono {a b : Nat} (h : a ≤ b) {v : Int64} (hv : rl_val a v) : rl_val b v := by
  rcases hv with h1 | ⟨k, hk, e⟩
  · exact Or.inl h1
  · exact Or.inr ⟨k, by omega, e⟩
/-- the class of a value, -1 if it is none -/
noncomputable def ob_kc (OC : Nat → Int32) (no : Nat) (v : Int64) : Int32 := bs_ci (rl_int v) 1 (bs_ci (∃ k, k < no ∧ v = lN (4294967296 + k)) (OC (v - 4294967296).toInt32.toNatClampNeg) (-1))
theorem ob_kc_i {OC : Nat → Int32} {no : Nat} {v : Int64} (h : rl_int v) : ob_kc OC no v = 1 := bs_ct h
theorem ob_kc_o {OC : Nat → Int32} {no k : Nat} (hno : no ≤ 20) (h : k < no) : ob_kc OC no (lN (4294967296 + k)) = OC k := by
  unfold ob_kc
  rw [bs_cf (ob_ni (by omega)), bs_ct ⟨k, h, rfl⟩, ob_ix (by omega), bs_clk (by omega)]
theorem ob_kc_n {OC : Nat → Int32} {no : Nat} {v : Int64} (h : ¬ rl_val no v) : ob_kc OC no v = -1 := by
  unfold ob_kc
  rw [bs_cf (fun z => h (Or.inl z)), bs_cf (fun z => h (Or.inr z))]
theorem ob_kc_v {nc no : Nat} {OC OH : Nat → Int32} {OS SL : Nat → Int64} (hc : 2 ≤ nc) (h : rl_obj nc no OC OH OS SL) {v : Int64} (hv : rl_val no v) : ∃ c, c < nc ∧ ob_kc OC no v = nI c := by
  rcases hv with h1 | ⟨k, hk, rfl⟩
  · exact ⟨1, by omega, ob_kc_i h1⟩
  · rw [ob_kc_o h.1 hk]; exact h.2.1 k hk
section
variable {x_classCount : Int32} {x_superCount : Int32} {x_objectCount : Int32} {x_draftSpecialCount : Int32} {x_state : Int32} {x_stepCount : Int32} {x_latestValue : Int64} {x_enterGeneric : Int32} {x_enterPlace : Int32} {x_frameCount : Int32} {x_operatorCount : Int32} {x_valueCount : Int32} {x_lineClass : Nat → Int32} {x_lineLength : Nat → Int32} {x_isSealed : Nat → Int32} {x_classHasSlot : Nat → Int32} {x_classSlot : Nat → Int32} {x_superDraft : Nat → Int32} {x_objectClass : Nat → Int32} {x_objectHasSlot : Nat → Int32} {x_objectSlot : Nat → Int64} {x_parameterCount : Nat → Int32} {x_methodGeneric : Nat → Int32} {x_specialiser : Nat → Int64} {x_tokenKind : Nat → Int32} {x_tokenValue : Nat → Int32} {x_tokenCount : Nat → Int32} {x_argument : Nat → Int64} {x_rank : Nat → Int32} {x_orderPlace : Nat → Int32} {x_frameMethod : Nat → Int32} {x_framePlace : Nat → Int32} {x_frameToken : Nat → Int32} {x_frameOperators : Nat → Int32} {x_frameArgument : Nat → Int64} {x_operatorKind : Nat → Int32} {x_operatorValue : Nat → Int32} {x_operatorLeft : Nat → Int32} {x_workedOut : Nat → Int64} {y_classes : Int32} {y_supers : Int32} {y_objects : Int32} {y_specials : Int32} {y_depth : Int32} {y_ops : Int32} {y_held : Int32} {y_fault : Int32} {y_steps : Int32} {y_shownSteps : Int32} {y_result : Int64} {y_line : Nat → Int32} {y_lineLength : Nat → Int32} {y_has : Nat → Int32} {y_sealed : Nat → Int32} {y_initial : Nat → Int32} {y_drafted : Nat → Int32} {y_draftHas : Nat → Int32} {y_draftInitial : Nat → Int32} {y_lists : Nat → Int32} {y_listLength : Nat → Int32} {y_gone : Nat → Int32} {y_classOfObject : Nat → Int32} {y_slots : Nat → Int64} {y_parameters : Nat → Int32} {y_generic : Nat → Int32} {y_single : Nat → Int32} {y_special : Nat → Int64} {y_kind : Nat → Int32} {y_tokens : Nat → Int32} {y_with : Nat → Int32} {y_methodAt : Nat → Int32} {y_pc : Nat → Int32} {y_chosen : Nat → Int32} {y_many : Nat → Int32} {y_reached : Nat → Int32} {y_opsAt : Nat → Int32} {y_broken : Nat → Int32} {y_arguments : Nat → Int64} {y_operands : Nat → Int64} {y_operator : Nat → Int32} {y_got : Nat → Int32}
theorem mx_isInt_t {post : Int32 → Prop} {v : Int64} (h : rl_int v) (hp : post 1) : wpX_isInt post (x_classCount, x_superCount, x_objectCount, x_draftSpecialCount, x_state, x_stepCount, x_latestValue, x_enterGeneric, x_enterPlace, x_frameCount, x_operatorCount, x_valueCount, x_lineClass, x_lineLength, x_isSealed, x_classHasSlot, x_classSlot, x_superDraft, x_objectClass, x_objectHasSlot, x_objectSlot, x_parameterCount, x_methodGeneric, x_specialiser, x_tokenKind, x_tokenValue, x_tokenCount, x_argument, x_rank, x_orderPlace, x_frameMethod, x_framePlace, x_frameToken, x_frameOperators, x_frameArgument, x_operatorKind, x_operatorValue, x_operatorLeft, x_workedOut) v := br_t h hp
theorem mx_isInt_f {post : Int32 → Prop} {v : Int64} (h : ¬ rl_int v) (hp : post 0) : wpX_isInt post (x_classCount, x_superCount, x_objectCount, x_draftSpecialCount, x_state, x_stepCount, x_latestValue, x_enterGeneric, x_enterPlace, x_frameCount, x_operatorCount, x_valueCount, x_lineClass, x_lineLength, x_isSealed, x_classHasSlot, x_classSlot, x_superDraft, x_objectClass, x_objectHasSlot, x_objectSlot, x_parameterCount, x_methodGeneric, x_specialiser, x_tokenKind, x_tokenValue, x_tokenCount, x_argument, x_rank, x_orderPlace, x_frameMethod, x_framePlace, x_frameToken, x_frameOperators, x_frameArgument, x_operatorKind, x_operatorValue, x_operatorLeft, x_workedOut) v := br_f h hp
theorem mx_isObject_t {post : Int32 → Prop} {k no : Nat} (hno : no ≤ 20) (hk : k < no) (hp : post 1) : wpX_isObject post (x_classCount, x_superCount, nI no, x_draftSpecialCount, x_state, x_stepCount, x_latestValue, x_enterGeneric, x_enterPlace, x_frameCount, x_operatorCount, x_valueCount, x_lineClass, x_lineLength, x_isSealed, x_classHasSlot, x_classSlot, x_superDraft, x_objectClass, x_objectHasSlot, x_objectSlot, x_parameterCount, x_methodGeneric, x_specialiser, x_tokenKind, x_tokenValue, x_tokenCount, x_argument, x_rank, x_orderPlace, x_frameMethod, x_framePlace, x_frameToken, x_frameOperators, x_frameArgument, x_operatorKind, x_operatorValue, x_operatorLeft, x_workedOut) (lN (4294967296 + k)) := by
  have h := (ob_X hno).mpr ⟨k, hk, rfl⟩
  exact br_f h.1 (br_f h.2 hp)
theorem mx_isObject_f {post : Int32 → Prop} {no : Nat} {v : Int64} (hno : no ≤ 20) (hv : ¬ ∃ k, k < no ∧ v = lN (4294967296 + k)) (hp : post 0) : wpX_isObject post (x_classCount, x_superCount, nI no, x_draftSpecialCount, x_state, x_stepCount, x_latestValue, x_enterGeneric, x_enterPlace, x_frameCount, x_operatorCount, x_valueCount, x_lineClass, x_lineLength, x_isSealed, x_classHasSlot, x_classSlot, x_superDraft, x_objectClass, x_objectHasSlot, x_objectSlot, x_parameterCount, x_methodGeneric, x_specialiser, x_tokenKind, x_tokenValue, x_tokenCount, x_argument, x_rank, x_orderPlace, x_frameMethod, x_framePlace, x_frameToken, x_frameOperators, x_frameArgument, x_operatorKind, x_operatorValue, x_operatorLeft, x_workedOut) v := by
  refine br_c (fun _ => hp) (fun h1 => br_c (fun _ => hp) (fun h2 => ?_))
  exact absurd ((ob_X hno).mp ⟨h1, h2⟩) hv
theorem mx_isValue_t {post : Int32 → Prop} {no : Nat} {v : Int64} (hno : no ≤ 20) (hv : rl_val no v) (hp : post 1) : wpX_isValue post (x_classCount, x_superCount, nI no, x_draftSpecialCount, x_state, x_stepCount, x_latestValue, x_enterGeneric, x_enterPlace, x_frameCount, x_operatorCount, x_valueCount, x_lineClass, x_lineLength, x_isSealed, x_classHasSlot, x_classSlot, x_superDraft, x_objectClass, x_objectHasSlot, x_objectSlot, x_parameterCount, x_methodGeneric, x_specialiser, x_tokenKind, x_tokenValue, x_tokenCount, x_argument, x_rank, x_orderPlace, x_frameMethod, x_framePlace, x_frameToken, x_frameOperators, x_frameArgument, x_operatorKind, x_operatorValue, x_operatorLeft, x_workedOut) v := by
  unfold wpX_isValue
  by_cases hi : rl_int v
  · exact mx_isInt_t hi (br_f (by decide) hp)
  · refine mx_isInt_f hi (br_t rfl ?_)
    rcases hv with h | ⟨k, hk, rfl⟩
    · exact absurd h hi
    · exact mx_isObject_t hno hk (br_f (by decide) hp)
theorem mx_isValue_f {post : Int32 → Prop} {no : Nat} {v : Int64} (hno : no ≤ 20) (hv : ¬ rl_val no v) (hp : post 0) : wpX_isValue post (x_classCount, x_superCount, nI no, x_draftSpecialCount, x_state, x_stepCount, x_latestValue, x_enterGeneric, x_enterPlace, x_frameCount, x_operatorCount, x_valueCount, x_lineClass, x_lineLength, x_isSealed, x_classHasSlot, x_classSlot, x_superDraft, x_objectClass, x_objectHasSlot, x_objectSlot, x_parameterCount, x_methodGeneric, x_specialiser, x_tokenKind, x_tokenValue, x_tokenCount, x_argument, x_rank, x_orderPlace, x_frameMethod, x_framePlace, x_frameToken, x_frameOperators, x_frameArgument, x_operatorKind, x_operatorValue, x_operatorLeft, x_workedOut) v := by
  unfold wpX_isValue
  exact mx_isInt_f (fun z => hv (Or.inl z)) (br_t rfl (mx_isObject_f hno (fun z => hv (Or.inr z)) (br_t rfl hp)))
theorem mx_classOf {post : Int32 → Prop} {no : Nat} {v : Int64} (hno : no ≤ 20) (hp : post (ob_kc x_objectClass no v)) : wpX_classOf post (x_classCount, x_superCount, nI no, x_draftSpecialCount, x_state, x_stepCount, x_latestValue, x_enterGeneric, x_enterPlace, x_frameCount, x_operatorCount, x_valueCount, x_lineClass, x_lineLength, x_isSealed, x_classHasSlot, x_classSlot, x_superDraft, x_objectClass, x_objectHasSlot, x_objectSlot, x_parameterCount, x_methodGeneric, x_specialiser, x_tokenKind, x_tokenValue, x_tokenCount, x_argument, x_rank, x_orderPlace, x_frameMethod, x_framePlace, x_frameToken, x_frameOperators, x_frameArgument, x_operatorKind, x_operatorValue, x_operatorLeft, x_workedOut) v := by
  unfold wpX_classOf
  by_cases hi : rl_int v
  · rw [ob_kc_i hi] at hp
    exact mx_isInt_t hi (br_f (by decide) hp)
  · refine mx_isInt_f hi (br_t rfl ?_)
    by_cases ho : ∃ k, k < no ∧ v = lN (4294967296 + k)
    · obtain ⟨k, hk, rfl⟩ := ho
      rw [ob_kc_o hno hk] at hp
      refine mx_isObject_t hno hk (br_f (by decide) ⟨pk_in k 20 (by omega) (ob_ix (by omega)), ?_⟩)
      rw [ob_ix (by omega), bs_clk (by omega)]
      exact hp
    · rw [ob_kc_n (fun z => z.elim hi ho)] at hp
      exact mx_isObject_f hno ho (br_t rfl hp)
theorem my_oob_t {post : Int32 → Prop} {k no : Nat} (hno : no ≤ 20) (hk : k < no) (hp : post 0) : wpY_out post (lN (4294967296 + k) - 4294967296) (nI no) := by
  have h := (ob_Y hno).mpr ⟨k, hk, rfl⟩
  exact br_f h.1 (br_t h.2 hp)
theorem my_oob_f {post : Int32 → Prop} {no : Nat} {v : Int64} (hno : no ≤ 20) (hv : ¬ ∃ k, k < no ∧ v = lN (4294967296 + k)) (hp : post 1) : wpY_out post (v - 4294967296) (nI no) := by
  refine br_c (fun _ => hp) (fun h1 => br_c (fun h2 => ?_) (fun _ => hp))
  exact absurd ((ob_Y hno).mp ⟨h1, h2⟩) hv
theorem my_classOf {post : Int32 → Prop} {no : Nat} {v : Int64} (hno : no ≤ 20) (hp : post (ob_kc y_classOfObject no v)) : wpY_classOf post (y_classes, y_supers, nI no, y_specials, y_depth, y_ops, y_held, y_fault, y_steps, y_shownSteps, y_result, y_line, y_lineLength, y_has, y_sealed, y_initial, y_drafted, y_draftHas, y_draftInitial, y_lists, y_listLength, y_gone, y_classOfObject, y_slots, y_parameters, y_generic, y_single, y_special, y_kind, y_tokens, y_with, y_methodAt, y_pc, y_chosen, y_many, y_reached, y_opsAt, y_broken, y_arguments, y_operands, y_operator, y_got) v := by
  unfold wpY_classOf
  by_cases hi : rl_int v
  · rw [ob_kc_i hi] at hp
    exact br_t hi hp
  · refine br_f hi ?_
    by_cases ho : ∃ k, k < no ∧ v = lN (4294967296 + k)
    · obtain ⟨k, hk, rfl⟩ := ho
      rw [ob_kc_o hno hk] at hp
      refine my_oob_t hno hk (br_t rfl ⟨pk_in k 20 (by omega) (ob_ix (by omega)), ?_⟩)
      rw [ob_ix (by omega), bs_clk (by omega)]
      exact hp
    · rw [ob_kc_n (fun z => z.elim hi ho)] at hp
      exact my_oob_f hno ho (br_f (by decide) hp)
end
theorem i_vc_result {k : Nat} {u : SX} {v : SY} (I : i_Rel k u v) (hk : k + 9 ≤ 4608) : wpX_result (fun r => wpY_result (fun r' => r' = r ∧ i_Rel (k + 9) u v) v) u := by
  obtain ⟨x_classCount, x_superCount, x_objectCount, x_draftSpecialCount, x_state, x_stepCount, x_latestValue, x_enterGeneric, x_enterPlace, x_frameCount, x_operatorCount, x_valueCount, x_lineClass, x_lineLength, x_isSealed, x_classHasSlot, x_classSlot, x_superDraft, x_objectClass, x_objectHasSlot, x_objectSlot, x_parameterCount, x_methodGeneric, x_specialiser, x_tokenKind, x_tokenValue, x_tokenCount, x_argument, x_rank, x_orderPlace, x_frameMethod, x_framePlace, x_frameToken, x_frameOperators, x_frameArgument, x_operatorKind, x_operatorValue, x_operatorLeft, x_workedOut⟩ := u
  obtain ⟨y_classes, y_supers, y_objects, y_specials, y_depth, y_ops, y_held, y_fault, y_steps, y_shownSteps, y_result, y_line, y_lineLength, y_has, y_sealed, y_initial, y_drafted, y_draftHas, y_draftInitial, y_lists, y_listLength, y_gone, y_classOfObject, y_slots, y_parameters, y_generic, y_single, y_special, y_kind, y_tokens, y_with, y_methodAt, y_pc, y_chosen, y_many, y_reached, y_opsAt, y_broken, y_arguments, y_operands, y_operator, y_got⟩ := v
  obtain ⟨nc, no, ns, nd, rfl, rfl, rfl, rfl, rfl, rfl, rfl, rfl, rfl, rfl, rfl, rfl, rfl, rfl, rfl, rfl, rfl, rfl, rfl, rfl, hcls, hsup, hslt, hobj, hpar, hgen, htok, hbod, hspc, hunq⟩ := I
  have J : i_Rel (k + 9) (nI nc, nI ns, nI no, nI nd, x_state, x_stepCount, x_latestValue, x_enterGeneric, x_enterPlace, x_frameCount, x_operatorCount, x_valueCount, x_lineClass, x_lineLength, x_isSealed, x_classHasSlot, x_classSlot, x_superDraft, x_objectClass, x_objectHasSlot, x_objectSlot, x_parameterCount, x_methodGeneric, x_specialiser, x_tokenKind, x_tokenValue, x_tokenCount, x_argument, x_rank, x_orderPlace, x_frameMethod, x_framePlace, x_frameToken, x_frameOperators, x_frameArgument, x_operatorKind, x_operatorValue, x_operatorLeft, x_workedOut) (nI nc, nI ns, nI no, nI nd, y_depth, y_ops, y_held, y_fault, y_steps, x_stepCount, x_latestValue, x_lineClass, x_lineLength, y_has, x_isSealed, y_initial, x_superDraft, y_draftHas, y_draftInitial, y_lists, y_listLength, y_gone, x_objectClass, y_slots, x_parameterCount, x_methodGeneric, y_single, y_special, x_tokenKind, x_tokenCount, x_tokenValue, y_methodAt, y_pc, y_chosen, y_many, y_reached, y_opsAt, y_broken, y_arguments, y_operands, y_operator, y_got) := ⟨nc, no, ns, nd, rfl, rfl, rfl, rfl, rfl, rfl, rfl, rfl, rfl, rfl, rfl, rfl, rfl, rfl, rfl, rfl, rfl, rfl, rfl, rfl, hcls, hsup, hslt, hobj, hpar, hgen, htok, hbod, hspc, hunq⟩
  exact ⟨rfl, J⟩
theorem i_vc_steps {k : Nat} {u : SX} {v : SY} (I : i_Rel k u v) (hk : k + 9 ≤ 4608) : wpX_steps (fun r => wpY_steps (fun r' => r' = r ∧ i_Rel (k + 9) u v) v) u := by
  obtain ⟨x_classCount, x_superCount, x_objectCount, x_draftSpecialCount, x_state, x_stepCount, x_latestValue, x_enterGeneric, x_enterPlace, x_frameCount, x_operatorCount, x_valueCount, x_lineClass, x_lineLength, x_isSealed, x_classHasSlot, x_classSlot, x_superDraft, x_objectClass, x_objectHasSlot, x_objectSlot, x_parameterCount, x_methodGeneric, x_specialiser, x_tokenKind, x_tokenValue, x_tokenCount, x_argument, x_rank, x_orderPlace, x_frameMethod, x_framePlace, x_frameToken, x_frameOperators, x_frameArgument, x_operatorKind, x_operatorValue, x_operatorLeft, x_workedOut⟩ := u
  obtain ⟨y_classes, y_supers, y_objects, y_specials, y_depth, y_ops, y_held, y_fault, y_steps, y_shownSteps, y_result, y_line, y_lineLength, y_has, y_sealed, y_initial, y_drafted, y_draftHas, y_draftInitial, y_lists, y_listLength, y_gone, y_classOfObject, y_slots, y_parameters, y_generic, y_single, y_special, y_kind, y_tokens, y_with, y_methodAt, y_pc, y_chosen, y_many, y_reached, y_opsAt, y_broken, y_arguments, y_operands, y_operator, y_got⟩ := v
  obtain ⟨nc, no, ns, nd, rfl, rfl, rfl, rfl, rfl, rfl, rfl, rfl, rfl, rfl, rfl, rfl, rfl, rfl, rfl, rfl, rfl, rfl, rfl, rfl, hcls, hsup, hslt, hobj, hpar, hgen, htok, hbod, hspc, hunq⟩ := I
  have J : i_Rel (k + 9) (nI nc, nI ns, nI no, nI nd, x_state, x_stepCount, x_latestValue, x_enterGeneric, x_enterPlace, x_frameCount, x_operatorCount, x_valueCount, x_lineClass, x_lineLength, x_isSealed, x_classHasSlot, x_classSlot, x_superDraft, x_objectClass, x_objectHasSlot, x_objectSlot, x_parameterCount, x_methodGeneric, x_specialiser, x_tokenKind, x_tokenValue, x_tokenCount, x_argument, x_rank, x_orderPlace, x_frameMethod, x_framePlace, x_frameToken, x_frameOperators, x_frameArgument, x_operatorKind, x_operatorValue, x_operatorLeft, x_workedOut) (nI nc, nI ns, nI no, nI nd, y_depth, y_ops, y_held, y_fault, y_steps, x_stepCount, x_latestValue, x_lineClass, x_lineLength, y_has, x_isSealed, y_initial, x_superDraft, y_draftHas, y_draftInitial, y_lists, y_listLength, y_gone, x_objectClass, y_slots, x_parameterCount, x_methodGeneric, y_single, y_special, x_tokenKind, x_tokenCount, x_tokenValue, y_methodAt, y_pc, y_chosen, y_many, y_reached, y_opsAt, y_broken, y_arguments, y_operands, y_operator, y_got) := ⟨nc, no, ns, nd, rfl, rfl, rfl, rfl, rfl, rfl, rfl, rfl, rfl, rfl, rfl, rfl, rfl, rfl, rfl, rfl, rfl, rfl, rfl, rfl, hcls, hsup, hslt, hobj, hpar, hgen, htok, hbod, hspc, hunq⟩
  exact ⟨rfl, J⟩
theorem i_vc_classOf {k : Nat} {u : SX} {v : SY} (I : i_Rel k u v) (hk : k + 9 ≤ 4608) (a0 : Int64) : wpX_classOf (fun r => wpY_classOf (fun r' => r' = r ∧ i_Rel (k + 9) u v) v a0) u a0 := by
  obtain ⟨x_classCount, x_superCount, x_objectCount, x_draftSpecialCount, x_state, x_stepCount, x_latestValue, x_enterGeneric, x_enterPlace, x_frameCount, x_operatorCount, x_valueCount, x_lineClass, x_lineLength, x_isSealed, x_classHasSlot, x_classSlot, x_superDraft, x_objectClass, x_objectHasSlot, x_objectSlot, x_parameterCount, x_methodGeneric, x_specialiser, x_tokenKind, x_tokenValue, x_tokenCount, x_argument, x_rank, x_orderPlace, x_frameMethod, x_framePlace, x_frameToken, x_frameOperators, x_frameArgument, x_operatorKind, x_operatorValue, x_operatorLeft, x_workedOut⟩ := u
  obtain ⟨y_classes, y_supers, y_objects, y_specials, y_depth, y_ops, y_held, y_fault, y_steps, y_shownSteps, y_result, y_line, y_lineLength, y_has, y_sealed, y_initial, y_drafted, y_draftHas, y_draftInitial, y_lists, y_listLength, y_gone, y_classOfObject, y_slots, y_parameters, y_generic, y_single, y_special, y_kind, y_tokens, y_with, y_methodAt, y_pc, y_chosen, y_many, y_reached, y_opsAt, y_broken, y_arguments, y_operands, y_operator, y_got⟩ := v
  obtain ⟨nc, no, ns, nd, rfl, rfl, rfl, rfl, rfl, rfl, rfl, rfl, rfl, rfl, rfl, rfl, rfl, rfl, rfl, rfl, rfl, rfl, rfl, rfl, hcls, hsup, hslt, hobj, hpar, hgen, htok, hbod, hspc, hunq⟩ := I
  have J : i_Rel (k + 9) (nI nc, nI ns, nI no, nI nd, x_state, x_stepCount, x_latestValue, x_enterGeneric, x_enterPlace, x_frameCount, x_operatorCount, x_valueCount, x_lineClass, x_lineLength, x_isSealed, x_classHasSlot, x_classSlot, x_superDraft, x_objectClass, x_objectHasSlot, x_objectSlot, x_parameterCount, x_methodGeneric, x_specialiser, x_tokenKind, x_tokenValue, x_tokenCount, x_argument, x_rank, x_orderPlace, x_frameMethod, x_framePlace, x_frameToken, x_frameOperators, x_frameArgument, x_operatorKind, x_operatorValue, x_operatorLeft, x_workedOut) (nI nc, nI ns, nI no, nI nd, y_depth, y_ops, y_held, y_fault, y_steps, x_stepCount, x_latestValue, x_lineClass, x_lineLength, y_has, x_isSealed, y_initial, x_superDraft, y_draftHas, y_draftInitial, y_lists, y_listLength, y_gone, x_objectClass, y_slots, x_parameterCount, x_methodGeneric, y_single, y_special, x_tokenKind, x_tokenCount, x_tokenValue, y_methodAt, y_pc, y_chosen, y_many, y_reached, y_opsAt, y_broken, y_arguments, y_operands, y_operator, y_got) := ⟨nc, no, ns, nd, rfl, rfl, rfl, rfl, rfl, rfl, rfl, rfl, rfl, rfl, rfl, rfl, rfl, rfl, rfl, rfl, rfl, rfl, rfl, rfl, hcls, hsup, hslt, hobj, hpar, hgen, htok, hbod, hspc, hunq⟩
  exact mx_classOf hobj.1 (my_classOf hobj.1 ⟨rfl, J⟩)
