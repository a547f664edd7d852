/-! the relation of a call at work, and how it moves -/
def cm_LX (TK TV PC MG oK oV oL : Nat → Int32) (wo : Nat → Int64) (fM fP fT fO : Nat → Int32) (fA : Nat → Int64) (K : List cm_Fr) : Prop := cm_lk (cm_vx TK) oK oV oL (fun i => TK i.1) (fun i => TV i.1) (fun i => nI (cm_A PC TK TV i.1 - i.2.1)) wo fM fP fT fO fA (cm_np PC MG) K
def cm_LY (PC MG op go : Nat → Int32) (od : Nat → Int64) (mA rE pC oA : Nat → Int32) (ag : Nat → Int64) (K : List cm_Fr) : Prop := cm_lk cm_al op go go (fun i => nI (i.1 % 16)) (fun i => nI i.2.1) (fun i => nI i.2.1) od mA rE pC oA ag (cm_np PC MG) K
def cm_J (nc x : Nat) (f : cm_Fr) (K : List cm_Fr) (s no : Nat) (x_lineClass : Nat → Int32) (x_lineLength : Nat → Int32) (x_methodGeneric : Nat → Int32) (x_parameterCount : Nat → Int32) (x_specialiser : Nat → Int64) (x_tokenKind : Nat → Int32) (x_tokenValue : Nat → Int32) (x_tokenCount : Nat → Int32) (x_objectClass : Nat → Int32) (x_objectHasSlot : Nat → Int32) (x_objectSlot : Nat → Int64) (x_frameMethod : Nat → Int32) (x_framePlace : Nat → Int32) (x_frameToken : Nat → Int32) (x_frameOperators : Nat → Int32) (x_frameArgument : Nat → Int64) (x_operatorKind : Nat → Int32) (x_operatorValue : Nat → Int32) (x_operatorLeft : Nat → Int32) (x_workedOut : Nat → Int64) (y_slots : Nat → Int64) (y_methodAt : Nat → Int32) (y_reached : Nat → Int32) (y_pc : Nat → Int32) (y_opsAt : Nat → Int32) (y_arguments : Nat → Int64) (y_operator : Nat → Int32) (y_got : Nat → Int32) (y_operands : Nat → Int64) (y_many : Nat → Int32) (y_broken : Nat → Int32) (y_chosen : Nat → Int32) : Prop :=
  rl_obj nc no x_objectClass x_objectHasSlot x_objectSlot y_slots ∧ s ≤ 120 ∧ cm_ko cm_al (f :: K) + cm_kv cm_al (f :: K) + (1 - x) ≤ s ∧ K.length < 8 ∧
  cm_fo x no x_lineClass x_lineLength x_methodGeneric x_parameterCount x_specialiser x_tokenKind x_tokenValue x_tokenCount x_objectClass f ∧
  (∀ f', f' ∈ K → cm_fo 0 no x_lineClass x_lineLength x_methodGeneric x_parameterCount x_specialiser x_tokenKind x_tokenValue x_tokenCount x_objectClass f') ∧
  cm_LX x_tokenKind x_tokenValue x_parameterCount x_methodGeneric x_operatorKind x_operatorValue x_operatorLeft x_workedOut x_frameMethod x_framePlace x_frameToken x_frameOperators x_frameArgument (f :: K) ∧
  cm_LY x_parameterCount x_methodGeneric y_operator y_got y_operands y_methodAt y_reached y_pc y_opsAt y_arguments (f :: K) ∧
  cm_ly x_lineClass x_lineLength x_methodGeneric x_parameterCount x_specialiser x_objectClass y_many y_broken y_chosen (f :: K)
/-- a stack of frames that wait -/
def cm_V (nc : Nat) (K : List cm_Fr) (s no : Nat) (x_lineClass : Nat → Int32) (x_lineLength : Nat → Int32) (x_methodGeneric : Nat → Int32) (x_parameterCount : Nat → Int32) (x_specialiser : Nat → Int64) (x_tokenKind : Nat → Int32) (x_tokenValue : Nat → Int32) (x_tokenCount : Nat → Int32) (x_objectClass : Nat → Int32) (x_objectHasSlot : Nat → Int32) (x_objectSlot : Nat → Int64) (x_frameMethod : Nat → Int32) (x_framePlace : Nat → Int32) (x_frameToken : Nat → Int32) (x_frameOperators : Nat → Int32) (x_frameArgument : Nat → Int64) (x_operatorKind : Nat → Int32) (x_operatorValue : Nat → Int32) (x_operatorLeft : Nat → Int32) (x_workedOut : Nat → Int64) (y_slots : Nat → Int64) (y_methodAt : Nat → Int32) (y_reached : Nat → Int32) (y_pc : Nat → Int32) (y_opsAt : Nat → Int32) (y_arguments : Nat → Int64) (y_operator : Nat → Int32) (y_got : Nat → Int32) (y_operands : Nat → Int64) (y_many : Nat → Int32) (y_broken : Nat → Int32) (y_chosen : Nat → Int32) : Prop :=
  rl_obj nc no x_objectClass x_objectHasSlot x_objectSlot y_slots ∧ s ≤ 120 ∧ cm_ko cm_al K + cm_kv cm_al K ≤ s ∧ K.length ≤ 8 ∧
  (∀ f', f' ∈ K → cm_fo 0 no x_lineClass x_lineLength x_methodGeneric x_parameterCount x_specialiser x_tokenKind x_tokenValue x_tokenCount x_objectClass f') ∧
  cm_LX x_tokenKind x_tokenValue x_parameterCount x_methodGeneric x_operatorKind x_operatorValue x_operatorLeft x_workedOut x_frameMethod x_framePlace x_frameToken x_frameOperators x_frameArgument K ∧
  cm_LY x_parameterCount x_methodGeneric y_operator y_got y_operands y_methodAt y_reached y_pc y_opsAt y_arguments K ∧
  cm_ly x_lineClass x_lineLength x_methodGeneric x_parameterCount x_specialiser x_objectClass y_many y_broken y_chosen K
section
variable {x_classCount : Int32} {x_superCount : Int32} {x_objectCount : Int32} {x_draftSpecialCount : Int32} {x_state : Int32} {x_stepCount : Int32} {x_latestValue : Int64} {x_enterGeneric : Int32} {x_enterPlace : Int32} {x_frameCount : Int32} {x_operatorCount : Int32} {x_valueCount : Int32} {x_lineClass : Nat → Int32} {x_lineLength : Nat → Int32} {x_isSealed : Nat → Int32} {x_classHasSlot : Nat → Int32} {x_classSlot : Nat → Int32} {x_superDraft : Nat → Int32} {x_objectClass : Nat → Int32} {x_objectHasSlot : Nat → Int32} {x_objectSlot : Nat → Int64} {x_parameterCount : Nat → Int32} {x_methodGeneric : Nat → Int32} {x_specialiser : Nat → Int64} {x_tokenKind : Nat → Int32} {x_tokenValue : Nat → Int32} {x_tokenCount : Nat → Int32} {x_argument : Nat → Int64} {x_rank : Nat → Int32} {x_orderPlace : Nat → Int32} {x_frameMethod : Nat → Int32} {x_framePlace : Nat → Int32} {x_frameToken : Nat → Int32} {x_frameOperators : Nat → Int32} {x_frameArgument : Nat → Int64} {x_operatorKind : Nat → Int32} {x_operatorValue : Nat → Int32} {x_operatorLeft : Nat → Int32} {x_workedOut : Nat → Int64} {y_classes : Int32} {y_supers : Int32} {y_objects : Int32} {y_specials : Int32} {y_depth : Int32} {y_ops : Int32} {y_held : Int32} {y_fault : Int32} {y_steps : Int32} {y_shownSteps : Int32} {y_result : Int64} {y_line : Nat → Int32} {y_lineLength : Nat → Int32} {y_has : Nat → Int32} {y_sealed : Nat → Int32} {y_initial : Nat → Int32} {y_drafted : Nat → Int32} {y_draftHas : Nat → Int32} {y_draftInitial : Nat → Int32} {y_lists : Nat → Int32} {y_listLength : Nat → Int32} {y_gone : Nat → Int32} {y_classOfObject : Nat → Int32} {y_slots : Nat → Int64} {y_parameters : Nat → Int32} {y_generic : Nat → Int32} {y_single : Nat → Int32} {y_special : Nat → Int64} {y_kind : Nat → Int32} {y_tokens : Nat → Int32} {y_with : Nat → Int32} {y_methodAt : Nat → Int32} {y_pc : Nat → Int32} {y_chosen : Nat → Int32} {y_many : Nat → Int32} {y_reached : Nat → Int32} {y_opsAt : Nat → Int32} {y_broken : Nat → Int32} {y_arguments : Nat → Int64} {y_operands : Nat → Int64} {y_operator : Nat → Int32} {y_got : Nat → Int32} {nc : Nat}
theorem cm_JV {f : cm_Fr} {K : List cm_Fr} {s no : Nat} (h : cm_J nc (0) (f) (K) (s) (no) x_lineClass x_lineLength x_methodGeneric x_parameterCount x_specialiser x_tokenKind x_tokenValue x_tokenCount x_objectClass x_objectHasSlot x_objectSlot x_frameMethod x_framePlace x_frameToken x_frameOperators x_frameArgument x_operatorKind x_operatorValue x_operatorLeft x_workedOut y_slots y_methodAt y_reached y_pc y_opsAt y_arguments y_operator y_got y_operands y_many y_broken y_chosen) : cm_V nc (f :: K) s no x_lineClass x_lineLength x_methodGeneric x_parameterCount x_specialiser x_tokenKind x_tokenValue x_tokenCount x_objectClass x_objectHasSlot x_objectSlot x_frameMethod x_framePlace x_frameToken x_frameOperators x_frameArgument x_operatorKind x_operatorValue x_operatorLeft x_workedOut y_slots y_methodAt y_reached y_pc y_opsAt y_arguments y_operator y_got y_operands y_many y_broken y_chosen := by
  obtain ⟨h1, h2, h3, h4, h5, h6, h7, h8, h9⟩ := h
  refine ⟨h1, h2, by omega, by show K.length + 1 ≤ 8; omega, fun f' hf' => ?_, h7, h8, h9⟩
  rcases List.mem_cons.mp hf' with e | e
  · rw [e]; exact h5
  · exact h6 f' e
theorem cm_V0 {s no : Nat} (ho : rl_obj nc no x_objectClass x_objectHasSlot x_objectSlot y_slots) (hs : s ≤ 120) : cm_V nc [] s no x_lineClass x_lineLength x_methodGeneric x_parameterCount x_specialiser x_tokenKind x_tokenValue x_tokenCount x_objectClass x_objectHasSlot x_objectSlot x_frameMethod x_framePlace x_frameToken x_frameOperators x_frameArgument x_operatorKind x_operatorValue x_operatorLeft x_workedOut y_slots y_methodAt y_reached y_pc y_opsAt y_arguments y_operator y_got y_operands y_many y_broken y_chosen :=
  ⟨ho, hs, Nat.zero_le _, Nat.zero_le _, fun f' hf' => absurd hf' List.not_mem_nil, trivial, trivial, trivial⟩
/-- the token at pc: its cell, its kind, what it leaves of the body -/
theorem cm_tok {x s no m pl pc : Nat} {ar : Nat → Int64} {its : List cm_It} {K : List cm_Fr} (htok : rl_tok nc x_tokenKind x_tokenValue x_tokenCount) (h : cm_J nc (1) ((m, pl, pc, ar, its)) (K) (s) (no) x_lineClass x_lineLength x_methodGeneric x_parameterCount x_specialiser x_tokenKind x_tokenValue x_tokenCount x_objectClass x_objectHasSlot x_objectSlot x_frameMethod x_framePlace x_frameToken x_frameOperators x_frameArgument x_operatorKind x_operatorValue x_operatorLeft x_workedOut y_slots y_methodAt y_reached y_pc y_opsAt y_arguments y_operator y_got y_operands y_many y_broken y_chosen) : ∃ g p t, m < 24 ∧ g < 5 ∧ 1 ≤ p ∧ p ≤ 3 ∧ t ≤ 16 ∧ x_methodGeneric m = nI g ∧ x_parameterCount g = nI p ∧ x_tokenCount m = nI t ∧ pc < t ∧ (∀ i, i < t → rl_tk nc (x_tokenKind (16 * m + i)) (x_tokenValue (16 * m + i))) ∧ rl_pn (rl_am x_parameterCount x_tokenKind x_tokenValue m) (t - (pc + 1)) (pc + 1) (cm_nd (cm_A x_parameterCount x_tokenKind x_tokenValue) its + cm_A x_parameterCount x_tokenKind x_tokenValue (16 * m + pc)) ∧ (∀ q, q < p → rl_val no (ar q)) := by
  obtain ⟨_, _, _, _, ⟨g, p, t, h1, h2, h3, h4, h5, h6, h7, h8, h9, h10, h11, h12, h13⟩, _⟩ := h
  dsimp only at h1 h6 h8 h9 h10 h11 h12
  have hlt : pc < t := by
    by_cases e : pc < t
    · exact e
    · have e0 : t - pc = 0 := by omega
      rw [e0] at h10
      have e1 : cm_nd (cm_A x_parameterCount x_tokenKind x_tokenValue) its + 1 = 0 := h10
      omega
  have e0 : t - pc = (t - (pc + 1)) + 1 := by omega
  rw [e0] at h10
  obtain ⟨k', ek, hr⟩ := h10
  have e1 : k' = cm_nd (cm_A x_parameterCount x_tokenKind x_tokenValue) its := by omega
  subst e1
  obtain ⟨t', ht', et', htk⟩ := htok m (by omega)
  rw [h8] at et'
  have e2 := bs_inj (by omega) (by omega) et'
  subst e2
  exact ⟨g, p, t, h1, h2, h3, h4, h5, h6, h7, h8, hlt, htk, hr, h12⟩
theorem cm_mv_pc {s no m pl pc : Nat} {ar : Nat → Int64} {its : List cm_It} {K : List cm_Fr} {wo' : Nat → Int64} (htok : rl_tok nc x_tokenKind x_tokenValue x_tokenCount) (h : cm_J nc (1) ((m, pl, pc, ar, its)) (K) (s) (no) x_lineClass x_lineLength x_methodGeneric x_parameterCount x_specialiser x_tokenKind x_tokenValue x_tokenCount x_objectClass x_objectHasSlot x_objectSlot x_frameMethod x_framePlace x_frameToken x_frameOperators x_frameArgument x_operatorKind x_operatorValue x_operatorLeft x_workedOut y_slots y_methodAt y_reached y_pc y_opsAt y_arguments y_operator y_got y_operands y_many y_broken y_chosen) (hs : s < 120) (hA : cm_A x_parameterCount x_tokenKind x_tokenValue (16 * m + pc) = 0) (hwo : ∀ j, j < cm_kv (cm_vx x_tokenKind) ((m, pl, pc, ar, its) :: K) → wo' j = x_workedOut j) : cm_J nc (0) ((m, pl, pc + 1, ar, its)) (K) (s + 1) (no) x_lineClass x_lineLength x_methodGeneric x_parameterCount x_specialiser x_tokenKind x_tokenValue x_tokenCount x_objectClass x_objectHasSlot x_objectSlot x_frameMethod x_framePlace (upd x_frameToken K.length (nI (pc + 1))) x_frameOperators x_frameArgument x_operatorKind x_operatorValue x_operatorLeft wo' y_slots y_methodAt y_reached (upd y_pc K.length (nI (pc + 1))) y_opsAt y_arguments y_operator y_got y_operands y_many y_broken y_chosen := by
  obtain ⟨g, p, t, a1, a2, a3, a4, a5, a6, a7, a8, a9, a10, a11, a12⟩ := cm_tok (x := 1) htok h
  obtain ⟨h1, h2, h3, h4, hf, h6, h7, h8, h9⟩ := h
  obtain ⟨g', p', t', b1, b2, b3, b4, b5, b6, b7, b8, b9, b10, b11, b12, b13⟩ := hf
  obtain ⟨⟨x1, x2, x3, x4, x5, x6⟩, x7⟩ := h7
  obtain ⟨⟨y1, y2, y3, y4, y5, y6⟩, y7⟩ := h8
  rw [hA] at a11
  have e1 : g' = g := by
    have b6' : x_methodGeneric m = nI g' := b6
    rw [a6] at b6'
    exact (bs_inj (by omega) (by omega) b6').symm
  subst e1
  have e2 : p' = p := by
    rw [a7] at b7
    exact (bs_inj (by omega) (by omega) b7).symm
  subst e2
  have e3 : t' = t := by
    have b8' : x_tokenCount m = nI t' := b8
    rw [a8] at b8'
    exact (bs_inj (by omega) (by omega) b8').symm
  subst e3
  have hk : cm_kv (cm_vx x_tokenKind) ((m, pl, pc, ar, its) :: K) = cm_kv (cm_vx x_tokenKind) K + cm_nv (cm_vx x_tokenKind) its := rfl
  rw [hk] at hwo
  refine ⟨h1, by omega, ?_, h4, ⟨g', p', t', b1, b2, b3, b4, b5, b6, b7, b8, by show pc + 1 ≤ t'; omega, a11, b11, b12, b13⟩, h6, ⟨⟨x1, x2, pk_us, x4, x5, cm_li_c _ (fun j _ => ⟨rfl, rfl, rfl⟩) hwo x6⟩, cm_lk_c (cm_np3 _ _) K (fun j hj => ⟨rfl, rfl, pk_un (by omega), rfl⟩) (fun _ _ => rfl) (fun _ _ => ⟨rfl, rfl, rfl⟩) (fun j hj => hwo j (by omega)) x7⟩, ⟨⟨y1, y2, pk_us, y4, y5, y6⟩, cm_lk_c (cm_np3 _ _) K (fun j hj => ⟨rfl, rfl, pk_un (by omega), rfl⟩) (fun _ _ => rfl) (fun _ _ => ⟨rfl, rfl, rfl⟩) (fun j hj => rfl) y7⟩, h9⟩
  have hc : cm_ko cm_al ((m, pl, pc + 1, ar, its) :: K) + cm_kv cm_al ((m, pl, pc + 1, ar, its) :: K) = cm_ko cm_al ((m, pl, pc, ar, its) :: K) + cm_kv cm_al ((m, pl, pc, ar, its) :: K) := rfl
  omega
theorem cm_mv_op {s no m pl pc q : Nat} {ar : Nat → Int64} {its : List cm_It} {K : List cm_Fr} (htok : rl_tok nc x_tokenKind x_tokenValue x_tokenCount) (h : cm_J nc (1) ((m, pl, pc, ar, its)) (K) (s) (no) x_lineClass x_lineLength x_methodGeneric x_parameterCount x_specialiser x_tokenKind x_tokenValue x_tokenCount x_objectClass x_objectHasSlot x_objectSlot x_frameMethod x_framePlace x_frameToken x_frameOperators x_frameArgument x_operatorKind x_operatorValue x_operatorLeft x_workedOut y_slots y_methodAt y_reached y_pc y_opsAt y_arguments y_operator y_got y_operands y_many y_broken y_chosen) (hs : s < 120) (hA : 1 ≤ cm_A x_parameterCount x_tokenKind x_tokenValue (16 * m + pc)) : cm_J nc (1) ((m, pl, pc + 1, ar, (16 * m + pc, 0, 0, fun _ => 0) :: its)) (K) (s + 1) (no) x_lineClass x_lineLength x_methodGeneric x_parameterCount x_specialiser x_tokenKind x_tokenValue x_tokenCount x_objectClass x_objectHasSlot x_objectSlot x_frameMethod x_framePlace (upd x_frameToken K.length (nI (pc + 1))) x_frameOperators x_frameArgument (upd x_operatorKind (cm_ko (cm_vx x_tokenKind) ((m, pl, pc, ar, its) :: K)) (x_tokenKind (16 * m + pc))) (upd x_operatorValue (cm_ko (cm_vx x_tokenKind) ((m, pl, pc, ar, its) :: K)) (x_tokenValue (16 * m + pc))) (upd x_operatorLeft (cm_ko (cm_vx x_tokenKind) ((m, pl, pc, ar, its) :: K)) (nI (cm_A x_parameterCount x_tokenKind x_tokenValue (16 * m + pc)))) x_workedOut y_slots y_methodAt y_reached (upd y_pc K.length (nI (pc + 1))) y_opsAt y_arguments (upd y_operator (cm_ko cm_al ((m, pl, pc, ar, its) :: K)) (nI pc)) (upd y_got (cm_ko cm_al ((m, pl, pc, ar, its) :: K)) 0) y_operands y_many y_broken y_chosen := by
  obtain ⟨g, p, t, a1, a2, a3, a4, a5, a6, a7, a8, a9, a10, a11, a12⟩ := cm_tok (x := 1) htok h
  obtain ⟨h1, h2, h3, h4, hf, h6, h7, h8, h9⟩ := h
  obtain ⟨g', p', t', b1, b2, b3, b4, b5, b6, b7, b8, b9, b10, b11, b12, b13⟩ := hf
  obtain ⟨⟨x1, x2, x3, x4, x5, x6⟩, x7⟩ := h7
  obtain ⟨⟨y1, y2, y3, y4, y5, y6⟩, y7⟩ := h8
  have e3 : t' = t := by
    have b8' : x_tokenCount m = nI t' := b8
    rw [a8] at b8'
    exact (bs_inj (by omega) (by omega) b8').symm
  subst e3
  have hvx : cm_vx x_tokenKind (16 * m + pc, 0, 0, fun _ => 0) = true := cm_vx_t (fun z => absurd z.2 (show ¬ (0 : Nat) = 1 by decide))
  have hkx : cm_ko (cm_vx x_tokenKind) ((m, pl, pc, ar, its) :: K) = cm_ko (cm_vx x_tokenKind) K + cm_ni (cm_vx x_tokenKind) its := rfl
  have hky : cm_ko cm_al ((m, pl, pc, ar, its) :: K) = cm_ko cm_al K + cm_ni cm_al its := rfl
  have hnd : cm_nd (cm_A x_parameterCount x_tokenKind x_tokenValue) ((16 * m + pc, 0, 0, fun _ => 0) :: its) = cm_nd (cm_A x_parameterCount x_tokenKind x_tokenValue) its + (cm_A x_parameterCount x_tokenKind x_tokenValue (16 * m + pc) - 0 - 1) := rfl
  have hkv : cm_kv cm_al ((m, pl, pc, ar, its) :: K) = cm_kv cm_al K + cm_nv cm_al its := rfl
  refine ⟨h1, by omega, ?_, h4, ⟨g', p', t', b1, b2, b3, b4, b5, b6, b7, b8, by show pc + 1 ≤ t'; omega, ?_, fun i hi => ?_, b12, b13⟩, h6, ⟨⟨x1, x2, pk_us, x4, x5, ⟨fun _ => ?_, cm_li_c _ (fun j hj => ?_) (fun _ _ => rfl) x6⟩⟩, cm_lk_c (cm_np3 _ _) K (fun j hj => ⟨rfl, rfl, pk_un (by omega), rfl⟩) (fun _ _ => rfl) (fun j hj => ?_) (fun _ _ => rfl) x7⟩, ⟨⟨y1, y2, pk_us, y4, y5, ⟨fun _ => ?_, cm_li_c _ (fun j hj => ?_) (fun _ _ => rfl) y6⟩⟩, cm_lk_c (cm_np3 _ _) K (fun j hj => ⟨rfl, rfl, pk_un (by omega), rfl⟩) (fun _ _ => rfl) (fun j hj => ?_) (fun _ _ => rfl) y7⟩, h9⟩
  · have c1 : cm_ko cm_al ((m, pl, pc + 1, ar, (16 * m + pc, 0, 0, fun _ => 0) :: its) :: K) = cm_ko cm_al K + (cm_ni cm_al its + 1) := rfl
    have c2 : cm_kv cm_al ((m, pl, pc + 1, ar, (16 * m + pc, 0, 0, fun _ => 0) :: its) :: K) = cm_kv cm_al K + (cm_nv cm_al its + 0) := rfl
    omega
  · dsimp only
    rw [hnd, show cm_nd (cm_A x_parameterCount x_tokenKind x_tokenValue) its + (cm_A x_parameterCount x_tokenKind x_tokenValue (16 * m + pc) - 0 - 1) + 1 = cm_nd (cm_A x_parameterCount x_tokenKind x_tokenValue) its + cm_A x_parameterCount x_tokenKind x_tokenValue (16 * m + pc) by omega]
    exact a11
  · rcases List.mem_cons.mp hi with e | e
    · rw [e]
      exact ⟨pc, a9, rfl, hA, fun _ => ⟨rfl, show (0 : Nat) ≤ 1 by decide⟩, fun _ => rfl, fun q hq => absurd hq (Nat.not_lt_zero q)⟩
    · exact b11 i e
  · rw [hkx, pk_us, pk_us, pk_us]
    exact ⟨rfl, rfl, rfl, fun q hq => absurd hq (Nat.not_lt_zero q)⟩
  · rw [hkx, pk_un (by omega), pk_un (by omega), pk_un (by omega)]
    exact ⟨rfl, rfl, rfl⟩
  · rw [hkx, pk_un (by omega), pk_un (by omega), pk_un (by omega)]
    exact ⟨rfl, rfl, rfl⟩
  · rw [hky, pk_us, pk_us]
    refine ⟨?_, rfl, rfl, fun q hq => absurd hq (Nat.not_lt_zero q)⟩
    show nI pc = nI ((16 * m + pc) % 16)
    rw [show (16 * m + pc) % 16 = pc by omega]
  · rw [hky, pk_un (by omega), pk_un (by omega)]
    exact ⟨rfl, rfl, rfl⟩
  · rw [hky, pk_un (by omega), pk_un (by omega)]
    exact ⟨rfl, rfl, rfl⟩
end
