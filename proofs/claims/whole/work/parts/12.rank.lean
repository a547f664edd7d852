/-! ranks: near, applicable, precedes -/
noncomputable def or_pl (LC LL : Nat → Int32) (c : Nat) (s : Int32) : Int32 := bs_sr (fun k => LC (16 * c + k) = s) (LL c).toNatClampNeg
theorem or_pl_c {LC LL : Nat → Int32} {c l : Nat} {s : Int32} (hl : l ≤ 16) (el : LL c = nI l) : or_pl LC LL c s = -1 ∨ ∃ j, j < 16 ∧ or_pl LC LL c s = nI j := by
  unfold or_pl
  rw [el, bs_clk (by omega)]
  rcases bs_sr_c (p := fun k => LC (16 * c + k) = s) (n := l) with ⟨i, hi, _, _, e⟩ | ⟨_, e⟩
  · exact Or.inr ⟨i, by omega, e⟩
  · exact Or.inl e
noncomputable def or_p1 (x : Int32) : Int32 := bs_ci (x = -1) (-1) (x + 1)
noncomputable def or_cv (OC : Nat → Int32) (v : Int64) : Int32 := bs_ci (rl_int v) 1 (OC (v - 4294967296).toInt32.toNatClampNeg)
noncomputable def or_nr (LC LL OC : Nat → Int32) (sp v : Int64) : Int32 := bs_ci (sp = v) 0 (bs_ci (8589934592 ≤ sp) (or_p1 (or_pl LC LL (or_cv OC v).toNatClampNeg (sp - 8589934592).toInt32)) (-1))
def or_W (nc no g p : Nat) (LC LL OC PC : Nat → Int32) (ar : Nat → Int64) : Prop := rl_cls nc LC LL ∧ no ≤ 20 ∧ (∀ k, k < no → ∃ c, c < nc ∧ OC k = nI c) ∧ g < 5 ∧ 1 ≤ p ∧ p ≤ 3 ∧ PC g = nI p ∧ ∀ k, k < p → rl_val no (ar k)
theorem or_cv_v {nc no : Nat} {OC : Nat → Int32} {v : Int64} (h2 : 2 ≤ nc) (hno : no ≤ 20) (hoc : ∀ k, k < no → ∃ c, c < nc ∧ OC k = nI c) (hv : rl_val no v) : ∃ c, c < nc ∧ or_cv OC v = nI c ∧ ob_kc OC no v = nI c := by
  rcases hv with hi | ⟨k, hk, rfl⟩
  · exact ⟨1, by omega, bs_ct hi, ob_kc_i hi⟩
  · obtain ⟨c, hc, e⟩ := hoc k hk
    refine ⟨c, hc, ?_, ?_⟩
    · unfold or_cv
      rw [bs_cf (ob_ni (by omega)), ob_ix (by omega), bs_clk (by omega), e]
    · rw [ob_kc_o hno hk, e]
theorem or_nr_c {nc no : Nat} {LC LL OC : Nat → Int32} {sp v : Int64} (hcls : rl_cls nc LC LL) (hno : no ≤ 20) (hoc : ∀ k, k < no → ∃ c, c < nc ∧ OC k = nI c) (hv : rl_val no v) : or_nr LC LL OC sp v = -1 ∨ ∃ j, j < 18 ∧ or_nr LC LL OC sp v = nI j := by
  unfold or_nr
  by_cases h1 : sp = v
  · rw [bs_ct h1]; exact Or.inr ⟨0, by omega, rfl⟩
  · rw [bs_cf h1]
    by_cases h2 : 8589934592 ≤ sp
    · rw [bs_ct h2]
      obtain ⟨c, hc, ec, _⟩ := or_cv_v hcls.1 hno hoc hv
      have h16 := hcls.2.1
      rw [ec, bs_clk (by omega)]
      obtain ⟨l, hl, el, _⟩ := hcls.2.2 c hc
      rcases or_pl_c (LC := LC) (s := (sp - 8589934592).toInt32) hl el with e | ⟨j, hj, e⟩
      · rw [e]; exact Or.inl (bs_ct rfl)
      · rw [e]
        refine Or.inr ⟨j + 1, by omega, ?_⟩
        unfold or_p1
        rw [bs_cf (bs_n1 (by omega)), nI_1]
    · rw [bs_cf h2]; exact Or.inl rfl
noncomputable def or_R (LC LL OC : Nat → Int32) (SP ar : Nat → Int64) (p : Nat) : Nat → Nat → Int32 := fun m k => bs_ci (k < p) (or_nr LC LL OC (SP (3 * m + k)) (ar k)) 0
theorem or_R_k {LC LL OC : Nat → Int32} {SP ar : Nat → Int64} {p m k : Nat} (hk : k < p) : or_R LC LL OC SP ar p m k = or_nr LC LL OC (SP (3 * m + k)) (ar k) := bs_ct hk
def or_app (R : Nat → Nat → Int32) (p m : Nat) : Prop := ∀ k, k < p → ¬ R m k = -1
theorem or_ge0 {x : Int32} (h : x = -1 ∨ ∃ j, j < 18 ∧ x = nI j) : 0 ≤ x ↔ ¬ x = -1 := by
  rcases h with rfl | ⟨j, hj, rfl⟩
  · exact ⟨fun z => absurd z (by decide), fun z => absurd rfl z⟩
  · exact ⟨fun _ => bs_n1 (by omega), fun _ => bs_ge0 (by omega)⟩
section
variable {x_classCount : Int32} {x_superCount : Int32} {x_objectCount : Int32} {x_draftSpecialCount : Int32} {x_state : Int32} {x_stepCount : Int32} {x_latestValue : Int64} {x_enterGeneric : Int32} {x_enterPlace : Int32} {x_frameCount : Int32} {x_operatorCount : Int32} {x_valueCount : Int32} {x_lineClass : Nat → Int32} {x_lineLength : Nat → Int32} {x_isSealed : Nat → Int32} {x_classHasSlot : Nat → Int32} {x_classSlot : Nat → Int32} {x_superDraft : Nat → Int32} {x_objectClass : Nat → Int32} {x_objectHasSlot : Nat → Int32} {x_objectSlot : Nat → Int64} {x_parameterCount : Nat → Int32} {x_methodGeneric : Nat → Int32} {x_specialiser : Nat → Int64} {x_tokenKind : Nat → Int32} {x_tokenValue : Nat → Int32} {x_tokenCount : Nat → Int32} {x_argument : Nat → Int64} {x_rank : Nat → Int32} {x_orderPlace : Nat → Int32} {x_frameMethod : Nat → Int32} {x_framePlace : Nat → Int32} {x_frameToken : Nat → Int32} {x_frameOperators : Nat → Int32} {x_frameArgument : Nat → Int64} {x_operatorKind : Nat → Int32} {x_operatorValue : Nat → Int32} {x_operatorLeft : Nat → Int32} {x_workedOut : Nat → Int64} {y_classes : Int32} {y_supers : Int32} {y_objects : Int32} {y_specials : Int32} {y_depth : Int32} {y_ops : Int32} {y_held : Int32} {y_fault : Int32} {y_steps : Int32} {y_shownSteps : Int32} {y_result : Int64} {y_line : Nat → Int32} {y_lineLength : Nat → Int32} {y_has : Nat → Int32} {y_sealed : Nat → Int32} {y_initial : Nat → Int32} {y_drafted : Nat → Int32} {y_draftHas : Nat → Int32} {y_draftInitial : Nat → Int32} {y_lists : Nat → Int32} {y_listLength : Nat → Int32} {y_gone : Nat → Int32} {y_classOfObject : Nat → Int32} {y_slots : Nat → Int64} {y_parameters : Nat → Int32} {y_generic : Nat → Int32} {y_single : Nat → Int32} {y_special : Nat → Int64} {y_kind : Nat → Int32} {y_tokens : Nat → Int32} {y_with : Nat → Int32} {y_methodAt : Nat → Int32} {y_pc : Nat → Int32} {y_chosen : Nat → Int32} {y_many : Nat → Int32} {y_reached : Nat → Int32} {y_opsAt : Nat → Int32} {y_broken : Nat → Int32} {y_arguments : Nat → Int64} {y_operands : Nat → Int64} {y_operator : Nat → Int32} {y_got : Nat → Int32}
theorem mx_placeInLine {post : Int32 → Prop} {c l : Nat} {s : Int32} (hc : c < 16) (hl : l ≤ 16) (el : x_lineLength c = nI l) (hp : post (or_pl x_lineClass x_lineLength c s)) : wpX_placeInLine post (x_classCount, x_superCount, x_objectCount, x_draftSpecialCount, x_state, x_stepCount, x_latestValue, x_enterGeneric, x_enterPlace, x_frameCount, x_operatorCount, x_valueCount, x_lineClass, x_lineLength, x_isSealed, x_classHasSlot, x_classSlot, x_superDraft, x_objectClass, x_objectHasSlot, x_objectSlot, x_parameterCount, x_methodGeneric, x_specialiser, x_tokenKind, x_tokenValue, x_tokenCount, x_argument, x_rank, x_orderPlace, x_frameMethod, x_framePlace, x_frameToken, x_frameOperators, x_frameArgument, x_operatorKind, x_operatorValue, x_operatorLeft, x_workedOut) (nI c) s := by
  unfold or_pl at hp
  rw [el, bs_clk (by omega)] at hp
  unfold wpX_placeInLine
  refine loop_0 (σ := Unit) (fun n i _ => wX_placeInLine_2 post (nI c) s x_classCount x_superCount x_objectCount x_draftSpecialCount x_state x_stepCount x_latestValue x_enterGeneric x_enterPlace x_frameCount x_operatorCount x_valueCount x_lineClass x_lineLength x_isSealed x_classHasSlot x_classSlot x_superDraft x_objectClass x_objectHasSlot x_objectSlot x_parameterCount x_methodGeneric x_specialiser x_tokenKind x_tokenValue x_tokenCount x_argument x_rank x_orderPlace x_frameMethod x_framePlace x_frameToken x_frameOperators x_frameArgument x_operatorKind x_operatorValue x_operatorLeft x_workedOut n (nI i)) (fun i _ => ∀ j, j < i → ¬ x_lineClass (16 * c + j) = s) l () lt_0 ?_ ?_
  · intro n _ hI
    refine ⟨pk_in c 16 hc, ?_⟩
    rw [bs_clk (n := c) (by omega), el]
    rw [bs_sr_no hI] at hp
    exact br_t (nI_le (Nat.le_refl _) (by omega)) hp
  · intro n i _ hi hI k
    refine ⟨pk_in c 16 hc, ?_⟩
    rw [bs_clk (n := c) (by omega), el]
    refine br_f (nI_ge hi (by omega)) ⟨pk_in (16 * c + i) 256 (by omega) (bs_xi 16 c i), ?_⟩
    rw [bs_xi 16 c i, bs_clk (n := 16 * c + i) (by omega)]
    refine br_c (fun e => ?_) (fun e => nm_r (nI_1 i) (k () (lt_s hI e)))
    rw [bs_sr_at hi e hI] at hp
    exact hp
theorem my_place {post : Int32 → Prop} {c l : Nat} {s : Int32} (hc : c < 16) (hl : l ≤ 16) (el : y_lineLength c = nI l) (hp : post (or_pl y_line y_lineLength c s)) : wpY_place post (y_classes, y_supers, y_objects, y_specials, y_depth, y_ops, y_held, y_fault, y_steps, y_shownSteps, y_result, y_line, y_lineLength, y_has, y_sealed, y_initial, y_drafted, y_draftHas, y_draftInitial, y_lists, y_listLength, y_gone, y_classOfObject, y_slots, y_parameters, y_generic, y_single, y_special, y_kind, y_tokens, y_with, y_methodAt, y_pc, y_chosen, y_many, y_reached, y_opsAt, y_broken, y_arguments, y_operands, y_operator, y_got) (nI c) s := by
  unfold or_pl at hp
  rw [el, bs_clk (by omega)] at hp
  unfold wpY_place
  refine loop_0 (σ := Unit) (fun n i _ => wY_place_2 post (nI c) s y_classes y_supers y_objects y_specials y_depth y_ops y_held y_fault y_steps y_shownSteps y_result y_line y_lineLength y_has y_sealed y_initial y_drafted y_draftHas y_draftInitial y_lists y_listLength y_gone y_classOfObject y_slots y_parameters y_generic y_single y_special y_kind y_tokens y_with y_methodAt y_pc y_chosen y_many y_reached y_opsAt y_broken y_arguments y_operands y_operator y_got n (nI i)) (fun i _ => ∀ j, j < i → ¬ y_line (16 * c + j) = s) l () lt_0 ?_ ?_
  · intro n _ hI
    refine ⟨pk_in c 16 hc, ?_⟩
    rw [bs_clk (n := c) (by omega), el]
    rw [bs_sr_no hI] at hp
    exact br_t (nI_le (Nat.le_refl _) (by omega)) hp
  · intro n i _ hi hI k
    refine ⟨pk_in c 16 hc, ?_⟩
    rw [bs_clk (n := c) (by omega), el]
    refine br_f (nI_ge hi (by omega)) ⟨pk_in (16 * c + i) 256 (by omega) (bs_ix 16 c i), ?_⟩
    rw [bs_ix 16 c i, bs_clk (n := 16 * c + i) (by omega)]
    refine br_c (fun e => ?_) (fun e => nm_r (nI_1 i) (k () (lt_s hI e)))
    rw [bs_sr_at hi e hI] at hp
    exact hp
theorem mx_rank41 {post : Int32 → Prop} {nc c : Nat} {sp : Int64} (hcls : rl_cls nc x_lineClass x_lineLength) (hc : c < nc) (hp : post (or_p1 (or_pl x_lineClass x_lineLength c (sp - 8589934592).toInt32))) : wX_rankOf_41 post sp (nI c) x_classCount x_superCount x_objectCount x_draftSpecialCount x_state x_stepCount x_latestValue x_enterGeneric x_enterPlace x_frameCount x_operatorCount x_valueCount x_lineClass x_lineLength x_isSealed x_classHasSlot x_classSlot x_superDraft x_objectClass x_objectHasSlot x_objectSlot x_parameterCount x_methodGeneric x_specialiser x_tokenKind x_tokenValue x_tokenCount x_argument x_rank x_orderPlace x_frameMethod x_framePlace x_frameToken x_frameOperators x_frameArgument x_operatorKind x_operatorValue x_operatorLeft x_workedOut := by
  have h16 := hcls.2.1
  obtain ⟨l, hl, el, _⟩ := hcls.2.2 c hc
  refine nm_e (mx_placeInLine (by omega) hl el ?_)
  refine br_c (fun e => ?_) (fun e => ?_)
  · unfold or_p1 at hp; rw [bs_ct e] at hp; exact hp
  · unfold or_p1 at hp; rw [bs_cf e] at hp; exact hp
theorem mx_rankOf {post : Int32 → Prop} {nc no : Nat} {sp v : Int64} (hcls : rl_cls nc x_lineClass x_lineLength) (hno : no ≤ 20) (hoc : ∀ k, k < no → ∃ c, c < nc ∧ x_objectClass k = nI c) (hv : rl_val no v) (hp : post (or_nr x_lineClass x_lineLength x_objectClass sp v)) : wpX_rankOf post (x_classCount, x_superCount, x_objectCount, x_draftSpecialCount, x_state, x_stepCount, x_latestValue, x_enterGeneric, x_enterPlace, x_frameCount, x_operatorCount, x_valueCount, x_lineClass, x_lineLength, x_isSealed, x_classHasSlot, x_classSlot, x_superDraft, x_objectClass, x_objectHasSlot, x_objectSlot, x_parameterCount, x_methodGeneric, x_specialiser, x_tokenKind, x_tokenValue, x_tokenCount, x_argument, x_rank, x_orderPlace, x_frameMethod, x_framePlace, x_frameToken, x_frameOperators, x_frameArgument, x_operatorKind, x_operatorValue, x_operatorLeft, x_workedOut) sp v := by
  have h16 := hcls.2.1
  unfold wpX_rankOf
  unfold or_nr at hp
  refine br_c (fun e => ?_) (fun ne => br_c (fun ge => ?_) (fun lt => ?_))
  · rw [bs_ct e] at hp; exact hp
  · rw [bs_cf ne, bs_ct ge] at hp
    rcases hv with hi | ⟨k, hk, rfl⟩
    · refine mx_isInt_t hi (br_f (by decide) ?_)
      have e1 : or_cv x_objectClass v = 1 := bs_ct hi
      rw [e1] at hp
      exact mx_rank41 (c := 1) hcls hcls.1 hp
    · obtain ⟨c, hc, e⟩ := hoc k hk
      have e1 : or_cv x_objectClass (lN (4294967296 + k)) = nI c := by
        unfold or_cv
        rw [bs_cf (ob_ni (by omega)), ob_ix (by omega), bs_clk (by omega), e]
      rw [e1, bs_clk (by omega)] at hp
      refine mx_isInt_f (ob_ni (by omega)) (br_t rfl ⟨pk_in k 20 (by omega) (ob_ix (by omega)), ?_⟩)
      rw [ob_ix (by omega), bs_clk (n := k) (by omega), e]
      exact mx_rank41 hcls hc hp
  · rw [bs_cf ne, bs_cf lt] at hp; exact hp
theorem my_near {post : Int32 → Prop} {nc no m k : Nat} {sp v : Int64} (hcls : rl_cls nc y_line y_lineLength) (hno : no ≤ 20) (hoc : ∀ k, k < no → ∃ c, c < nc ∧ y_classOfObject k = nI c) (hv : rl_val no v) (hm : m < 24) (hk : k < 3) (hs : rl_sp nc no sp (y_single (3 * m + k)) (y_special (3 * m + k))) (hp : post (or_nr y_line y_lineLength y_classOfObject sp v)) : wpY_near post (y_classes, y_supers, nI no, y_specials, y_depth, y_ops, y_held, y_fault, y_steps, y_shownSteps, y_result, y_line, y_lineLength, y_has, y_sealed, y_initial, y_drafted, y_draftHas, y_draftInitial, y_lists, y_listLength, y_gone, y_classOfObject, y_slots, y_parameters, y_generic, y_single, y_special, y_kind, y_tokens, y_with, y_methodAt, y_pc, y_chosen, y_many, y_reached, y_opsAt, y_broken, y_arguments, y_operands, y_operator, y_got) (nI m) (nI k) v := by
  have h16 := hcls.2.1
  unfold wpY_near
  unfold or_nr at hp
  refine ⟨pk_in (3 * m + k) 75 (by omega) (bs_ix 3 m k), nm_r (e' := y_special (3 * m + k)) (by rw [bs_ix 3 m k, bs_clk (by omega)]) ⟨pk_in (3 * m + k) 75 (by omega) (bs_ix 3 m k), ?_⟩⟩
  rw [bs_ix 3 m k, bs_clk (n := 3 * m + k) (by omega)]
  rcases hs with ⟨e0, c, hc, e1, e2⟩ | ⟨e0, e1, hv2⟩
  · rw [e0, e1]
    obtain ⟨d, hd, ed, ek⟩ := or_cv_v hcls.1 hno hoc hv
    obtain ⟨l, hl, el, _⟩ := hcls.2.2 d hd
    have hne : ¬ sp = v := by
      rw [e2]
      rintro rfl
      rcases hv with hi | ⟨q, hq, e⟩
      · have h1 := cl_il hi
        rw [ob_K, pk_lLT (by omega) (by omega)] at h1
        omega
      · exact cl_c c q (by omega) (by omega) e
    have hge : 8589934592 ≤ sp := by
      rw [e2, show (8589934592 : Int64) = lN 8589934592 from by decide, pk_lLE (by omega) (by omega)]
      omega
    have hsub : (sp - 8589934592).toInt32 = nI c := by
      rw [e2, show (8589934592 : Int64) = lN 8589934592 from by decide, lN_sub (by omega), Nat.add_sub_cancel_left, lN_i]
    rw [bs_cf hne, bs_ct hge, ed, bs_clk (by omega), hsub] at hp
    refine br_t rfl (my_classOf hno ?_)
    rw [ek]
    refine my_place (by omega) hl el ?_
    rw [lN_i]
    rcases or_pl_c (LC := y_line) (s := nI c) hl el with e | ⟨j, hj, e⟩
    · rw [e] at hp ⊢
      unfold or_p1 at hp
      rw [bs_ct rfl] at hp
      exact br_f (by decide) hp
    · rw [e] at hp ⊢
      unfold or_p1 at hp
      rw [bs_cf (bs_n1 (by omega))] at hp
      exact br_t (bs_ge0 (by omega)) hp
  · rw [e0, ← e1]
    refine br_f (by decide) (br_c (fun e => ?_) (fun ne => ?_))
    · rw [bs_ct e] at hp; exact hp
    · have hlt : ¬ 8589934592 ≤ sp := by
        rw [e1]
        intro z
        rw [show (8589934592 : Int64) = lN 8589934592 from by decide] at z
        rcases hv2 with hi | ⟨q, hq, e⟩
        · have h1 := cl_il hi
          rw [Int64.lt_iff_toInt_lt, ob_K, pk_lT (by omega)] at h1
          rw [Int64.le_iff_toInt_le, pk_lT (by omega)] at z
          omega
        · rw [e, pk_lLE (by omega) (by omega)] at z
          omega
      rw [bs_cf ne, bs_cf hlt] at hp; exact hp
end
