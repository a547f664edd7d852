/-! make -/
def mk_p (LC CH : Nat → Int32) (c n : Nat) (k : Nat) : Prop := ¬ CH (4 * (LC (16 * c + k)).toNatClampNeg + n) = 0
noncomputable def mk_own (LC CH : Nat → Int32) (c l n : Nat) : Int32 := bs_ci (bs_fi (mk_p LC CH c n) l < l) (LC (16 * c + bs_fi (mk_p LC CH c n) l)) (-1)
theorem mk_own_at {LC CH : Nat → Int32} {c l n i : Nat} (hi : i < l) (hp : mk_p LC CH c n i) (hj : ∀ j, j < i → ¬ mk_p LC CH c n j) : mk_own LC CH c l n = LC (16 * c + i) := by
  unfold mk_own
  rw [bs_fi_at hi hp hj, bs_ct hi]
theorem mk_own_no {LC CH : Nat → Int32} {c l n : Nat} (hj : ∀ j, j < l → ¬ mk_p LC CH c n j) : mk_own LC CH c l n = -1 := by
  unfold mk_own
  rw [bs_fi_no hj, bs_cf (Nat.lt_irrefl _)]
theorem mk_own_c {nc : Nat} {LC LL CH HA : Nat → Int32} (h : rl_cls nc LC LL) (hh : ∀ j, j < 4 * nc → HA j = CH j) {c l n : Nat} (hc : c < nc) (hl : l ≤ 16) (el : LL c = nI l) (hn : n < 4) : mk_own LC HA c l n = mk_own LC CH c l n := by
  obtain ⟨l', hl', el', hk⟩ := h.2.2 c hc
  rw [el] at el'
  have e := bs_inj (by omega) (by omega) el'
  subst e
  have hf : bs_fi (mk_p LC HA c n) l = bs_fi (mk_p LC CH c n) l := by
    refine bs_fi_c (fun j hj => ?_)
    obtain ⟨e, he, ee⟩ := hk j hj
    have hn16 := h.2.1
    unfold mk_p
    rw [ee, bs_clk (by omega), hh _ (by omega)]
  unfold mk_own
  rw [hf]
/-- the owner: none, or a class that has the slot -/
theorem mk_own_x {nc : Nat} {LC LL CH : Nat → Int32} (h : rl_cls nc LC LL) {c l n : Nat} (hc : c < nc) (hl : l ≤ 16) (el : LL c = nI l) : mk_own LC CH c l n = -1 ∨ ∃ e, e < nc ∧ mk_own LC CH c l n = nI e ∧ ¬ CH (4 * e + n) = 0 := by
  obtain ⟨l', hl', el', hk⟩ := h.2.2 c hc
  rw [el] at el'
  have e := bs_inj (by omega) (by omega) el'
  subst e
  by_cases a : bs_fi (mk_p LC CH c n) l < l
  · obtain ⟨e, he, ee⟩ := hk _ a
    have hp := bs_fi_p a
    unfold mk_p at hp
    have hn16 := h.2.1
    refine Or.inr ⟨e, he, ?_, ?_⟩
    · unfold mk_own
      rw [bs_ct a, ee]
    · intro z
      apply hp
      have := ee
      unfold mk_p at this
      rw [this, bs_clk (by omega)]
      exact z
  · exact Or.inl (by unfold mk_own; rw [bs_cf a])
def mk_PX (LC CH CS OH : Nat → Int32) (OS : Nat → Int64) (c l no : Nat) (OH' : Nat → Int32) (OS' : Nat → Int64) (i : Nat) : Prop := (∀ j, j < 4 * no → OH' j = OH j ∧ OS' j = OS j) ∧ ∀ n, n < i → (mk_own LC CH c l n = -1 ∧ OH' (4 * no + n) = 0) ∨ (∃ e, e < 16 ∧ mk_own LC CH c l n = nI e ∧ OH' (4 * no + n) = 1 ∧ OS' (4 * no + n) = (CS (4 * e + n)).toInt64)
def mk_PY (LC HA IN : Nat → Int32) (SL : Nat → Int64) (c l no : Nat) (SL' : Nat → Int64) (i : Nat) : Prop := (∀ j, j < 4 * no → SL' j = SL j) ∧ ∀ n, n < i → (mk_own LC HA c l n = -1 ∧ SL' (4 * no + n) = -9223372036854775808) ∨ (∃ e, e < 16 ∧ mk_own LC HA c l n = nI e ∧ SL' (4 * no + n) = (IN (4 * e + n)).toInt64)
section
variable {x_classCount : Int32} {x_superCount : Int32} {x_objectCount : Int32} {x_draftSpecialCount : Int32} {x_state : Int32} {x_stepCount : Int32} {x_latestValue : Int64} {x_enterGeneric : Int32} {x_enterPlace : Int32} {x_frameCount : Int32} {x_operatorCount : Int32} {x_valueCount : Int32} {x_lineClass : Nat → Int32} {x_lineLength : Nat → Int32} {x_isSealed : Nat → Int32} {x_classHasSlot : Nat → Int32} {x_classSlot : Nat → Int32} {x_superDraft : Nat → Int32} {x_objectClass : Nat → Int32} {x_objectHasSlot : Nat → Int32} {x_objectSlot : Nat → Int64} {x_parameterCount : Nat → Int32} {x_methodGeneric : Nat → Int32} {x_specialiser : Nat → Int64} {x_tokenKind : Nat → Int32} {x_tokenValue : Nat → Int32} {x_tokenCount : Nat → Int32} {x_argument : Nat → Int64} {x_rank : Nat → Int32} {x_orderPlace : Nat → Int32} {x_frameMethod : Nat → Int32} {x_framePlace : Nat → Int32} {x_frameToken : Nat → Int32} {x_frameOperators : Nat → Int32} {x_frameArgument : Nat → Int64} {x_operatorKind : Nat → Int32} {x_operatorValue : Nat → Int32} {x_operatorLeft : Nat → Int32} {x_workedOut : Nat → Int64} {y_classes : Int32} {y_supers : Int32} {y_objects : Int32} {y_specials : Int32} {y_depth : Int32} {y_ops : Int32} {y_held : Int32} {y_fault : Int32} {y_steps : Int32} {y_shownSteps : Int32} {y_result : Int64} {y_line : Nat → Int32} {y_lineLength : Nat → Int32} {y_has : Nat → Int32} {y_sealed : Nat → Int32} {y_initial : Nat → Int32} {y_drafted : Nat → Int32} {y_draftHas : Nat → Int32} {y_draftInitial : Nat → Int32} {y_lists : Nat → Int32} {y_listLength : Nat → Int32} {y_gone : Nat → Int32} {y_classOfObject : Nat → Int32} {y_slots : Nat → Int64} {y_parameters : Nat → Int32} {y_generic : Nat → Int32} {y_single : Nat → Int32} {y_special : Nat → Int64} {y_kind : Nat → Int32} {y_tokens : Nat → Int32} {y_with : Nat → Int32} {y_methodAt : Nat → Int32} {y_pc : Nat → Int32} {y_chosen : Nat → Int32} {y_many : Nat → Int32} {y_reached : Nat → Int32} {y_opsAt : Nat → Int32} {y_broken : Nat → Int32} {y_arguments : Nat → Int64} {y_operands : Nat → Int64} {y_operator : Nat → Int32} {y_got : Nat → Int32}
theorem mx_slotOwner {post : Int32 → Prop} {nc c l n : Nat} (h : rl_cls nc x_lineClass x_lineLength) (hc : c < nc) (hl : l ≤ 16) (el : x_lineLength c = nI l) (hn : n < 4) (hp : post (mk_own x_lineClass x_classHasSlot c l n)) : wpX_slotOwner post (x_classCount, x_superCount, x_objectCount, x_draftSpecialCount, x_state, x_stepCount, x_latestValue, x_enterGeneric, x_enterPlace, x_frameCount, x_operatorCount, x_valueCount, x_lineClass, x_lineLength, x_isSealed, x_classHasSlot, x_classSlot, x_superDraft, x_objectClass, x_objectHasSlot, x_objectSlot, x_parameterCount, x_methodGeneric, x_specialiser, x_tokenKind, x_tokenValue, x_tokenCount, x_argument, x_rank, x_orderPlace, x_frameMethod, x_framePlace, x_frameToken, x_frameOperators, x_frameArgument, x_operatorKind, x_operatorValue, x_operatorLeft, x_workedOut) (nI c) (nI n) := by
  have hn16 := h.2.1
  obtain ⟨l', hl', el', hk⟩ := h.2.2 c hc
  rw [el] at el'
  have e := bs_inj (by omega) (by omega) el'
  subst e
  unfold wpX_slotOwner
  refine loop_0 (σ := Unit) (fun n' i _ => wX_slotOwner_2 post (nI c) (nI n) x_classCount x_superCount x_objectCount x_draftSpecialCount x_state x_stepCount x_latestValue x_enterGeneric x_enterPlace x_frameCount x_operatorCount x_valueCount x_lineClass x_lineLength x_isSealed x_classHasSlot x_classSlot x_superDraft x_objectClass x_objectHasSlot x_objectSlot x_parameterCount x_methodGeneric x_specialiser x_tokenKind x_tokenValue x_tokenCount x_argument x_rank x_orderPlace x_frameMethod x_framePlace x_frameToken x_frameOperators x_frameArgument x_operatorKind x_operatorValue x_operatorLeft x_workedOut n' (nI i)) (fun i _ => ∀ j, j < i → ¬ mk_p x_lineClass x_classHasSlot c n j) l () lt_0 ?_ ?_
  · intro n' _ hI
    refine ⟨pk_in c 16 (by omega), ?_⟩
    rw [bs_clk (n := c) (by omega), el]
    rw [mk_own_no hI] at hp
    exact br_t (nI_le (Nat.le_refl _) (by omega)) hp
  · intro n' i _ hi hI k
    refine ⟨pk_in c 16 (by omega), ?_⟩
    rw [bs_clk (n := c) (by omega), el]
    obtain ⟨e, he, ee⟩ := hk i hi
    refine br_f (nI_ge hi (by omega)) ⟨pk_in (16 * c + i) 256 (by omega) (bs_xi 16 c i), nm_r (e' := nI e) (by rw [bs_xi 16 c i, bs_clk (by omega), ee]) ⟨pk_in (4 * e + n) 68 (by omega) (bs_xi 4 e n), ?_⟩⟩
    rw [bs_xi 4 e n, bs_clk (n := 4 * e + n) (by omega)]
    have hpp : mk_p x_lineClass x_classHasSlot c n i ↔ ¬ x_classHasSlot (4 * e + n) = 0 := by
      unfold mk_p; rw [ee, bs_clk (by omega)]
    refine br_c (fun z => nm_r (nI_1 i) (k () (lt_s hI (fun w => hpp.mp w z)))) (fun z => ?_)
    rw [mk_own_at hi (hpp.mpr z) hI, ee] at hp
    exact hp
theorem my_giver {post : Int32 → Prop} {nc c l n : Nat} (h : rl_cls nc y_line y_lineLength) (hc : c < nc) (hl : l ≤ 16) (el : y_lineLength c = nI l) (hn : n < 4) (hp : post (mk_own y_line y_has c l n)) : wpY_giver post (y_classes, y_supers, y_objects, y_specials, y_depth, y_ops, y_held, y_fault, y_steps, y_shownSteps, y_result, y_line, y_lineLength, y_has, y_sealed, y_initial, y_drafted, y_draftHas, y_draftInitial, y_lists, y_listLength, y_gone, y_classOfObject, y_slots, y_parameters, y_generic, y_single, y_special, y_kind, y_tokens, y_with, y_methodAt, y_pc, y_chosen, y_many, y_reached, y_opsAt, y_broken, y_arguments, y_operands, y_operator, y_got) (nI c) (nI n) := by
  have hn16 := h.2.1
  obtain ⟨l', hl', el', hk⟩ := h.2.2 c hc
  rw [el] at el'
  have e := bs_inj (by omega) (by omega) el'
  subst e
  unfold wpY_giver
  refine loop_0 (σ := Unit) (fun n' i _ => wY_giver_2 post (nI c) (nI n) y_classes y_supers y_objects y_specials y_depth y_ops y_held y_fault y_steps y_shownSteps y_result y_line y_lineLength y_has y_sealed y_initial y_drafted y_draftHas y_draftInitial y_lists y_listLength y_gone y_classOfObject y_slots y_parameters y_generic y_single y_special y_kind y_tokens y_with y_methodAt y_pc y_chosen y_many y_reached y_opsAt y_broken y_arguments y_operands y_operator y_got n' (nI i)) (fun i _ => ∀ j, j < i → ¬ mk_p y_line y_has c n j) l () lt_0 ?_ ?_
  · intro n' _ hI
    refine ⟨pk_in c 16 (by omega), ?_⟩
    rw [bs_clk (n := c) (by omega), el]
    rw [mk_own_no hI] at hp
    exact br_t (nI_le (Nat.le_refl _) (by omega)) hp
  · intro n' i _ hi hI k
    refine ⟨pk_in c 16 (by omega), ?_⟩
    rw [bs_clk (n := c) (by omega), el]
    obtain ⟨e, he, ee⟩ := hk i hi
    refine br_f (nI_ge hi (by omega)) ⟨pk_in (16 * c + i) 256 (by omega) (bs_ix 16 c i), ?_⟩
    rw [bs_ix 16 c i, bs_clk (n := 16 * c + i) (by omega), ee]
    refine ⟨pk_in (4 * e + n) 64 (by omega) (bs_ix 4 e n), ?_⟩
    rw [bs_ix 4 e n, bs_clk (n := 4 * e + n) (by omega)]
    have hpp : mk_p y_line y_has c n i ↔ ¬ y_has (4 * e + n) = 0 := by
      unfold mk_p; rw [ee, bs_clk (by omega)]
    refine br_c (fun z => nm_r (nI_1 i) (k () (lt_s hI (fun w => hpp.mp w z)))) (fun z => ⟨pk_in (16 * c + i) 256 (by omega), ?_⟩)
    rw [mk_own_at hi (hpp.mpr z) hI, ee] at hp
    exact hp
theorem mx_addObject {post : Int32 → SX → Prop} {nc c l no : Nat} (h : rl_cls nc x_lineClass x_lineLength) (hc : c < nc) (hl : l ≤ 16) (el : x_lineLength c = nI l) (hno : no < 20) (hp : ∀ (OH' : Nat → Int32) (OS' : Nat → Int64), mk_PX x_lineClass x_classHasSlot x_classSlot x_objectHasSlot x_objectSlot c l no OH' OS' 4 → post (nI no) (x_classCount, x_superCount, nI (no + 1), x_draftSpecialCount, x_state, x_stepCount, x_latestValue, x_enterGeneric, x_enterPlace, x_frameCount, x_operatorCount, x_valueCount, x_lineClass, x_lineLength, x_isSealed, x_classHasSlot, x_classSlot, x_superDraft, upd x_objectClass no (nI c), OH', OS', x_parameterCount, x_methodGeneric, x_specialiser, x_tokenKind, x_tokenValue, x_tokenCount, x_argument, x_rank, x_orderPlace, x_frameMethod, x_framePlace, x_frameToken, x_frameOperators, x_frameArgument, x_operatorKind, x_operatorValue, x_operatorLeft, x_workedOut)) : wpX_addObject post (x_classCount, x_superCount, nI no, x_draftSpecialCount, x_state, x_stepCount, x_latestValue, x_enterGeneric, x_enterPlace, x_frameCount, x_operatorCount, x_valueCount, x_lineClass, x_lineLength, x_isSealed, x_classHasSlot, x_classSlot, x_superDraft, x_objectClass, x_objectHasSlot, x_objectSlot, x_parameterCount, x_methodGeneric, x_specialiser, x_tokenKind, x_tokenValue, x_tokenCount, x_argument, x_rank, x_orderPlace, x_frameMethod, x_framePlace, x_frameToken, x_frameOperators, x_frameArgument, x_operatorKind, x_operatorValue, x_operatorLeft, x_workedOut) (nI c) := by
  have hn16 := h.2.1
  unfold wpX_addObject
  refine nm_r (nI_1 no) ⟨pk_in no 20 hno, nm_r (e' := upd x_objectClass no (nI c)) (by rw [bs_clk (by omega)]) ?_⟩
  refine loop_0 (σ := (Nat → Int32) × (Nat → Int64)) (fun n' i s => wX_addObject_24 post (nI c) (nI no) x_classCount x_superCount (nI (no + 1)) x_draftSpecialCount x_state x_stepCount x_latestValue x_enterGeneric x_enterPlace x_frameCount x_operatorCount x_valueCount n' (nI i) x_lineClass x_lineLength x_isSealed x_classHasSlot x_classSlot x_superDraft (upd x_objectClass no (nI c)) s.1 s.2 x_parameterCount x_methodGeneric x_specialiser x_tokenKind x_tokenValue x_tokenCount x_argument x_rank x_orderPlace x_frameMethod x_framePlace x_frameToken x_frameOperators x_frameArgument x_operatorKind x_operatorValue x_operatorLeft x_workedOut) (fun i s => mk_PX x_lineClass x_classHasSlot x_classSlot x_objectHasSlot x_objectSlot c l no s.1 s.2 i) 4 (x_objectHasSlot, x_objectSlot) ⟨fun j _ => ⟨rfl, rfl⟩, lt_0⟩ ?_ ?_
  · intro n' s hI
    exact br_t (nI_le (Nat.le_refl _) (by omega)) (hp _ _ hI)
  · intro n' i s hi hI k
    refine br_f (nI_ge (b := 4) hi (by omega)) ?_
    refine mx_slotOwner h hc hl el hi ?_
    rcases mk_own_x (CH := x_classHasSlot) (n := i) h hc hl el with ho | ⟨e, he, ho, _⟩
    · rw [ho]
      refine br_t rfl ⟨pk_in (4 * no + i) 80 (by omega) (bs_xi 4 no i), nm_r (e' := upd s.1 (4 * no + i) 0) (by rw [bs_xi 4 no i, bs_clk (by omega), bs_z0]) ?_⟩
      refine br_t rfl ⟨pk_in (4 * no + i) 80 (by omega) (bs_xi 4 no i), nm_r (e' := vp_updL s.2 (4 * no + i) 0) (by rw [bs_xi 4 no i, bs_clk (by omega)]) (nm_r (nI_1 i) ?_)⟩
      refine k (upd s.1 (4 * no + i) 0, vp_updL s.2 (4 * no + i) 0) ⟨fun j hj => ?_, fun n hn => ?_⟩
      · dsimp only
        rw [pk_un (by omega), pk_uLn (by omega)]; exact hI.1 j hj
      · dsimp only
        by_cases e1 : n = i
        · rw [e1, pk_us]; exact Or.inl ⟨ho, rfl⟩
        · rw [pk_un (by omega), pk_uLn (by omega)]; exact hI.2 n (by omega)
    · rw [ho]
      refine br_f (bs_n1 (by omega)) ⟨pk_in (4 * no + i) 80 (by omega) (bs_xi 4 no i), nm_r (e' := upd s.1 (4 * no + i) 1) (by rw [bs_xi 4 no i, bs_clk (by omega), bs_z1]) ?_⟩
      refine br_f (bs_n1 (by omega)) ⟨pk_in (4 * e + i) 68 (by omega) (bs_xi 4 e i), pk_in (4 * no + i) 80 (by omega) (bs_xi 4 no i), nm_r (e' := vp_updL s.2 (4 * no + i) (x_classSlot (4 * e + i)).toInt64) (by rw [bs_xi 4 no i, bs_xi 4 e i, bs_clk (by omega), bs_clk (by omega)]) (nm_r (nI_1 i) ?_)⟩
      refine k (upd s.1 (4 * no + i) 1, vp_updL s.2 (4 * no + i) (x_classSlot (4 * e + i)).toInt64) ⟨fun j hj => ?_, fun n hn => ?_⟩
      · dsimp only
        rw [pk_un (by omega), pk_uLn (by omega)]; exact hI.1 j hj
      · dsimp only
        by_cases e1 : n = i
        · rw [e1, pk_us, pk_uLs]; exact Or.inr ⟨e, by omega, ho, rfl, rfl⟩
        · rw [pk_un (by omega), pk_uLn (by omega)]; exact hI.2 n (by omega)
theorem my_make {post : Int32 → SY → Prop} {nc c l no : Nat} (h : rl_cls nc y_line y_lineLength) (hc : c < nc) (hc1 : c ≠ 1) (hl : l ≤ 16) (el : y_lineLength c = nI l) (hno : no < 20) (hp : ∀ (SL' : Nat → Int64), mk_PY y_line y_has y_initial y_slots c l no SL' 4 → post (nI no) (nI nc, y_supers, nI (no + 1), y_specials, y_depth, y_ops, y_held, y_fault, y_steps, y_shownSteps, y_result, y_line, y_lineLength, y_has, y_sealed, y_initial, y_drafted, y_draftHas, y_draftInitial, y_lists, y_listLength, y_gone, upd y_classOfObject no (nI c), SL', y_parameters, y_generic, y_single, y_special, y_kind, y_tokens, y_with, y_methodAt, y_pc, y_chosen, y_many, y_reached, y_opsAt, y_broken, y_arguments, y_operands, y_operator, y_got)) : wpY_make post (nI nc, y_supers, nI no, y_specials, y_depth, y_ops, y_held, y_fault, y_steps, y_shownSteps, y_result, y_line, y_lineLength, y_has, y_sealed, y_initial, y_drafted, y_draftHas, y_draftInitial, y_lists, y_listLength, y_gone, y_classOfObject, y_slots, y_parameters, y_generic, y_single, y_special, y_kind, y_tokens, y_with, y_methodAt, y_pc, y_chosen, y_many, y_reached, y_opsAt, y_broken, y_arguments, y_operands, y_operator, y_got) (nI c) := by
  have hn16 := h.2.1
  unfold wpY_make
  refine my_out_t hc (by omega) (br_t rfl (pk_eq c 1 (fun e => absurd e hc1) (fun _ => pk_eq no 20 (fun e => by omega) (fun _ => ⟨pk_in no 20 hno, nm_r (e' := upd y_classOfObject no (nI c)) (by rw [bs_clk (by omega), bs_vb8 (by omega)]) ?_⟩))))
  refine loop_0 (σ := Nat → Int64) (fun n' i s => wY_make_44 post (nI c) (nI nc) y_supers (nI no) y_specials y_depth y_ops y_held y_fault y_steps y_shownSteps y_result n' (nI i) y_line y_lineLength y_has y_sealed y_initial y_drafted y_draftHas y_draftInitial y_lists y_listLength y_gone (upd y_classOfObject no (nI c)) s y_parameters y_generic y_single y_special y_kind y_tokens y_with y_methodAt y_pc y_chosen y_many y_reached y_opsAt y_broken y_arguments y_operands y_operator y_got) (fun i s => mk_PY y_line y_has y_initial y_slots c l no s i) 4 y_slots ⟨fun j _ => rfl, lt_0⟩ ?_ ?_
  · intro n' s hI
    exact br_t (nI_le (Nat.le_refl _) (by omega)) (nm_r (nI_1 no) (hp _ hI))
  · intro n' i s hi hI k
    refine br_f (nI_ge (b := 4) hi (by omega)) ?_
    refine my_giver h hc hl el hi ?_
    rcases mk_own_x (CH := y_has) (n := i) h hc hl el with ho | ⟨e, he, ho, _⟩
    · rw [ho]
      refine br_f (by decide) ⟨pk_in (4 * no + i) 80 (by omega) (bs_ix 4 no i), nm_r (e' := vp_updL s (4 * no + i) (-9223372036854775808)) (by rw [bs_ix 4 no i, bs_clk (by omega)]) (nm_r (nI_1 i) ?_)⟩
      refine k (vp_updL s (4 * no + i) (-9223372036854775808)) ⟨fun j hj => ?_, fun n hn => ?_⟩
      · rw [pk_uLn (by omega)]; exact hI.1 j hj
      · by_cases e1 : n = i
        · rw [e1, pk_uLs]; exact Or.inl ⟨ho, rfl⟩
        · rw [pk_uLn (by omega)]; exact hI.2 n (by omega)
    · rw [ho]
      refine br_t (bs_ge0 (by omega)) ⟨pk_in (4 * e + i) 64 (by omega) (bs_ix 4 e i), pk_in (4 * no + i) 80 (by omega) (bs_ix 4 no i), nm_r (e' := vp_updL s (4 * no + i) (y_initial (4 * e + i)).toInt64) (by rw [bs_ix 4 no i, bs_ix 4 e i, bs_clk (by omega), bs_clk (by omega)]) (nm_r (nI_1 i) ?_)⟩
      refine k (vp_updL s (4 * no + i) (y_initial (4 * e + i)).toInt64) ⟨fun j hj => ?_, fun n hn => ?_⟩
      · rw [pk_uLn (by omega)]; exact hI.1 j hj
      · by_cases e1 : n = i
        · rw [e1, pk_uLs]; exact Or.inr ⟨e, by omega, ho, rfl⟩
        · rw [pk_uLn (by omega)]; exact hI.2 n (by omega)
end
theorem mk_int (x : Int32) : rl_int x.toInt64 := by
  unfold rl_int
  apply Int64.toInt_inj.mp
  rw [Int32.toInt32_toInt64]
theorem mk_obj {nc no c l : Nat} {LC LL CH CS HA IN DH DI OC OH OH' : Nat → Int32} {OS SL OS' SL' : Nat → Int64} (hcls : rl_cls nc LC LL) (hslt : rl_slt nc CH CS HA IN DH DI) (h : rl_obj nc no OC OH OS SL) (hc : c < nc) (hl : l ≤ 16) (el : LL c = nI l) (hno : no < 20) (hX : mk_PX LC CH CS OH OS c l no OH' OS' 4) (hY : mk_PY LC HA IN SL c l no SL' 4) : rl_obj nc (no + 1) (upd OC no (nI c)) OH' OS' SL' := by
  have hn16 := hcls.2.1
  refine ⟨by omega, fun k hk => ?_, fun j hj => ?_⟩
  · by_cases e : k = no
    · rw [e, pk_us]; exact ⟨c, hc, rfl⟩
    · rw [pk_un e]; exact h.2.1 k (by omega)
  · by_cases hj' : j < 4 * no
    · rw [(hX.1 j hj').1, (hX.1 j hj').2, hY.1 j hj']
      rcases h.2.2 j hj' with h1 | ⟨h1, h2, h3⟩
      · exact Or.inl h1
      · exact Or.inr ⟨h1, h2, ob_mono (by omega) h3⟩
    · obtain ⟨n, hn, rfl⟩ : ∃ n, n < 4 ∧ j = 4 * no + n := ⟨j - 4 * no, by omega, by omega⟩
      have eo := mk_own_c (HA := HA) (CH := CH) hcls (fun j hj => (hslt.2.1 j hj).1) hc hl el hn
      rcases hX.2 n hn with ⟨x1, x2⟩ | ⟨e, he, x1, x2, x3⟩
      · rcases hY.2 n hn with ⟨y1, y2⟩ | ⟨e', he', y1, y2⟩
        · exact Or.inl ⟨x2, y2⟩
        · rw [eo, x1] at y1
          exact absurd y1.symm (bs_n1 (by omega))
      · rcases hY.2 n hn with ⟨y1, y2⟩ | ⟨e', he', y1, y2⟩
        · rw [eo, x1] at y1
          exact absurd y1 (bs_n1 (by omega))
        · rw [eo, x1] at y1
          have ee := bs_inj (by omega) (by omega) y1
          subst ee
          rcases mk_own_x (CH := CH) (n := n) hcls hc hl el with ho | ⟨e2, he2, ho, hch⟩
          · rw [x1] at ho
            exact absurd ho (bs_n1 (by omega))
          · rw [x1] at ho
            have ee := bs_inj (by omega) (by omega) ho
            subst ee
            have h1 : CH (4 * e + n) = 1 := (hslt.1 _).resolve_left hch
            refine Or.inr ⟨x2, ?_, ?_⟩
            · rw [y2, x3, (hslt.2.1 (4 * e + n) (by omega)).2 h1]
            · rw [x3]; exact Or.inl (mk_int _)
theorem mk_sp_mono {nc no no' : Nat} (h : no ≤ no') {sp sg : Int64} {si : Int32} (hs : rl_sp nc no sp si sg) : rl_sp nc no' sp si sg := by
  rcases hs with h1 | ⟨h1, h2, h3⟩
  · exact Or.inl h1
  · exact Or.inr ⟨h1, h2, ob_mono h h3⟩
theorem mk_spc {nc no no' nd : Nat} (h : no ≤ no') {MG PC : Nat → Int32} {SP : Nat → Int64} {SI : Nat → Int32} {SG : Nat → Int64} (hs : rl_spc nc no nd MG PC SP SI SG) : rl_spc nc no' nd MG PC SP SI SG :=
  ⟨hs.1, fun k hk => mk_sp_mono h (hs.2.1 k hk), fun m g p hm hg hp h1 h2 k hk => mk_sp_mono h (hs.2.2 m g p hm hg hp h1 h2 k hk)⟩
theorem i_vc_make {k : Nat} {u : SX} {v : SY} (I : i_Rel k u v) (hk : k + 9 ≤ 4608) (v1 : Int32) : wpX_make (fun r u' => wpY_make (fun r' v' => r' = r ∧ i_Rel (k + 9) u' v') v v1) u v1 := by
  obtain ⟨x_classCount, x_superCount, x_objectCount, x_draftSpecialCount, x_state, x_stepCount, x_latestValue, x_enterGeneric, x_enterPlace, x_frameCount, x_operatorCount, x_valueCount, x_lineClass, x_lineLength, x_isSealed, x_classHasSlot, x_classSlot, x_superDraft, x_objectClass, x_objectHasSlot, x_objectSlot, x_parameterCount, x_methodGeneric, x_specialiser, x_tokenKind, x_tokenValue, x_tokenCount, x_argument, x_rank, x_orderPlace, x_frameMethod, x_framePlace, x_frameToken, x_frameOperators, x_frameArgument, x_operatorKind, x_operatorValue, x_operatorLeft, x_workedOut⟩ := u
  obtain ⟨y_classes, y_supers, y_objects, y_specials, y_depth, y_ops, y_held, y_fault, y_steps, y_shownSteps, y_result, y_line, y_lineLength, y_has, y_sealed, y_initial, y_drafted, y_draftHas, y_draftInitial, y_lists, y_listLength, y_gone, y_classOfObject, y_slots, y_parameters, y_generic, y_single, y_special, y_kind, y_tokens, y_with, y_methodAt, y_pc, y_chosen, y_many, y_reached, y_opsAt, y_broken, y_arguments, y_operands, y_operator, y_got⟩ := v
  obtain ⟨nc, no, ns, nd, rfl, rfl, rfl, rfl, rfl, rfl, rfl, rfl, rfl, rfl, rfl, rfl, rfl, rfl, rfl, rfl, rfl, rfl, rfl, rfl, hcls, hsup, hslt, hobj, hpar, hgen, htok, hbod, hspc, hunq⟩ := I
  have J : i_Rel (k + 9) (nI nc, nI ns, nI no, nI nd, x_state, x_stepCount, x_latestValue, x_enterGeneric, x_enterPlace, x_frameCount, x_operatorCount, x_valueCount, x_lineClass, x_lineLength, x_isSealed, x_classHasSlot, x_classSlot, x_superDraft, x_objectClass, x_objectHasSlot, x_objectSlot, x_parameterCount, x_methodGeneric, x_specialiser, x_tokenKind, x_tokenValue, x_tokenCount, x_argument, x_rank, x_orderPlace, x_frameMethod, x_framePlace, x_frameToken, x_frameOperators, x_frameArgument, x_operatorKind, x_operatorValue, x_operatorLeft, x_workedOut) (nI nc, nI ns, nI no, nI nd, y_depth, y_ops, y_held, y_fault, y_steps, x_stepCount, x_latestValue, x_lineClass, x_lineLength, y_has, x_isSealed, y_initial, x_superDraft, y_draftHas, y_draftInitial, y_lists, y_listLength, y_gone, x_objectClass, y_slots, x_parameterCount, x_methodGeneric, y_single, y_special, x_tokenKind, x_tokenCount, x_tokenValue, y_methodAt, y_pc, y_chosen, y_many, y_reached, y_opsAt, y_broken, y_arguments, y_operands, y_operator, y_got) := ⟨nc, no, ns, nd, rfl, rfl, rfl, rfl, rfl, rfl, rfl, rfl, rfl, rfl, rfl, rfl, rfl, rfl, rfl, rfl, rfl, rfl, rfl, rfl, hcls, hsup, hslt, hobj, hpar, hgen, htok, hbod, hspc, hunq⟩
  have hn : nc ≤ 16 := hcls.2.1
  have hno := hobj.1
  rcases bs_ar2 v1 (n := nc) (by omega) with h | ⟨c, hc, rfl⟩
  · unfold wpX_make
    refine mx_isClass_f h (br_t rfl ?_)
    unfold wpY_make
    exact my_out_f h (br_f (by decide) ⟨rfl, J⟩)
  · unfold wpX_make
    refine mx_isClass_t hc hn (br_f (by decide) (pk_eq c 1 (fun e => ?_) (fun hc1 => pk_eq no 20 (fun e => ?_) (fun hno2 => ?_))))
    · unfold wpY_make
      exact my_out_t hc (by omega) (br_t rfl (br_t (congrArg nI e) ⟨rfl, J⟩))
    · unfold wpY_make
      exact my_out_t hc (by omega) (br_t rfl (pk_eq c 1 (fun e => absurd e hc1) (fun _ => br_t (congrArg nI e) ⟨rfl, J⟩)))
    · obtain ⟨l, hl, el, _⟩ := hcls.2.2 c hc
      refine mx_addObject hcls hc hl el (by omega) (fun OH' OS' hX => ?_)
      refine my_make hcls hc hc1 hl el (by omega) (fun SL' hY => ⟨rfl, ?_⟩)
      exact ⟨nc, no + 1, ns, nd, rfl, rfl, rfl, rfl, rfl, rfl, rfl, rfl, rfl, rfl, rfl, rfl, rfl, rfl, rfl, rfl, rfl, rfl, rfl, rfl, hcls, hsup, hslt, mk_obj hcls hslt hobj hc hl el (by omega) hX hY, hpar, hgen, htok, hbod, mk_spc (by omega) hspc, hunq⟩
