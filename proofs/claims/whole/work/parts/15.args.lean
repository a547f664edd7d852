/-! takeArguments, callable, bring, order -/
def ca_tr (a b c : Int64) : Nat → Int64 := fun k => if k = 0 then a else if k = 1 then b else c
theorem ca_tr0 (a b c : Int64) : ca_tr a b c 0 = a := rfl
theorem ca_tr1 (a b c : Int64) : ca_tr a b c 1 = b := rfl
theorem ca_tr2 (a b c : Int64) : ca_tr a b c 2 = c := rfl
theorem ca_3 {P : Nat → Prop} (h0 : P 0) (h1 : P 1) (h2 : P 2) {k : Nat} (hk : k < 3) : P k := by
  have h : k = 0 ∨ k = 1 ∨ k = 2 := by omega
  rcases h with rfl | rfl | rfl
  · exact h0
  · exact h1
  · exact h2
def ca_ag (f : Nat → Int64) (b : Nat) (x y z : Int64) : Nat → Int64 := vp_updL (vp_updL (vp_updL f b x) (b + 1) y) (b + 2) z
theorem ca_ag_k {f : Nat → Int64} {b k : Nat} {x y z : Int64} (hk : k < 3) : ca_ag f b x y z (b + k) = ca_tr x y z k := by
  unfold ca_ag
  refine ca_3 (P := fun k => vp_updL (vp_updL (vp_updL f b x) (b + 1) y) (b + 2) z (b + k) = ca_tr x y z k) ?_ ?_ ?_ hk
  · show vp_updL (vp_updL (vp_updL f b x) (b + 1) y) (b + 2) z b = x
    rw [pk_uLn (by omega), pk_uLn (by omega), pk_uLs]
  · show vp_updL (vp_updL (vp_updL f b x) (b + 1) y) (b + 2) z (b + 1) = y
    rw [pk_uLn (by omega), pk_uLs]
  · show vp_updL (vp_updL (vp_updL f b x) (b + 1) y) (b + 2) z (b + 2) = z
    rw [pk_uLs]
theorem ca_ag_n {f : Nat → Int64} {b j : Nat} {x y z : Int64} (h : j < b ∨ b + 3 ≤ j) : ca_ag f b x y z j = f j := by
  unfold ca_ag
  rw [pk_uLn (by omega), pk_uLn (by omega), pk_uLn (by omega)]
section
variable {x_classCount : Int32} {x_superCount : Int32} {x_objectCount : Int32} {x_draftSpecialCount : Int32} {x_state : Int32} {x_stepCount : Int32} {x_latestValue : Int64} {x_enterGeneric : Int32} {x_enterPlace : Int32} {x_frameCount : Int32} {x_operatorCount : Int32} {x_valueCount : Int32} {x_lineClass : Nat → Int32} {x_lineLength : Nat → Int32} {x_isSealed : Nat → Int32} {x_classHasSlot : Nat → Int32} {x_classSlot : Nat → Int32} {x_superDraft : Nat → Int32} {x_objectClass : Nat → Int32} {x_objectHasSlot : Nat → Int32} {x_objectSlot : Nat → Int64} {x_parameterCount : Nat → Int32} {x_methodGeneric : Nat → Int32} {x_specialiser : Nat → Int64} {x_tokenKind : Nat → Int32} {x_tokenValue : Nat → Int32} {x_tokenCount : Nat → Int32} {x_argument : Nat → Int64} {x_rank : Nat → Int32} {x_orderPlace : Nat → Int32} {x_frameMethod : Nat → Int32} {x_framePlace : Nat → Int32} {x_frameToken : Nat → Int32} {x_frameOperators : Nat → Int32} {x_frameArgument : Nat → Int64} {x_operatorKind : Nat → Int32} {x_operatorValue : Nat → Int32} {x_operatorLeft : Nat → Int32} {x_workedOut : Nat → Int64} {y_classes : Int32} {y_supers : Int32} {y_objects : Int32} {y_specials : Int32} {y_depth : Int32} {y_ops : Int32} {y_held : Int32} {y_fault : Int32} {y_steps : Int32} {y_shownSteps : Int32} {y_result : Int64} {y_line : Nat → Int32} {y_lineLength : Nat → Int32} {y_has : Nat → Int32} {y_sealed : Nat → Int32} {y_initial : Nat → Int32} {y_drafted : Nat → Int32} {y_draftHas : Nat → Int32} {y_draftInitial : Nat → Int32} {y_lists : Nat → Int32} {y_listLength : Nat → Int32} {y_gone : Nat → Int32} {y_classOfObject : Nat → Int32} {y_slots : Nat → Int64} {y_parameters : Nat → Int32} {y_generic : Nat → Int32} {y_single : Nat → Int32} {y_special : Nat → Int64} {y_kind : Nat → Int32} {y_tokens : Nat → Int32} {y_with : Nat → Int32} {y_methodAt : Nat → Int32} {y_pc : Nat → Int32} {y_chosen : Nat → Int32} {y_many : Nat → Int32} {y_reached : Nat → Int32} {y_opsAt : Nat → Int32} {y_broken : Nat → Int32} {y_arguments : Nat → Int64} {y_operands : Nat → Int64} {y_operator : Nat → Int32} {y_got : Nat → Int32}
theorem mx_takeArguments {post : Int32 → SX → Prop} {no g p : Nat} {a b c : Int64} (hno : no ≤ 20) (hg : g < 5) (hp3 : p ≤ 3) (ep : x_parameterCount g = nI p) (h1 : (∀ k, k < p → rl_val no (ca_tr a b c k)) → post 1 (x_classCount, x_superCount, nI no, x_draftSpecialCount, x_state, x_stepCount, x_latestValue, x_enterGeneric, x_enterPlace, x_frameCount, x_operatorCount, x_valueCount, x_lineClass, x_lineLength, x_isSealed, x_classHasSlot, x_classSlot, x_superDraft, x_objectClass, x_objectHasSlot, x_objectSlot, x_parameterCount, x_methodGeneric, x_specialiser, x_tokenKind, x_tokenValue, x_tokenCount, ca_ag x_argument 0 a b c, x_rank, x_orderPlace, x_frameMethod, x_framePlace, x_frameToken, x_frameOperators, x_frameArgument, x_operatorKind, x_operatorValue, x_operatorLeft, x_workedOut)) (h0 : (¬ ∀ k, k < p → rl_val no (ca_tr a b c k)) → post 0 (x_classCount, x_superCount, nI no, x_draftSpecialCount, x_state, x_stepCount, x_latestValue, x_enterGeneric, x_enterPlace, x_frameCount, x_operatorCount, x_valueCount, x_lineClass, x_lineLength, x_isSealed, x_classHasSlot, x_classSlot, x_superDraft, x_objectClass, x_objectHasSlot, x_objectSlot, x_parameterCount, x_methodGeneric, x_specialiser, x_tokenKind, x_tokenValue, x_tokenCount, ca_ag x_argument 0 a b c, x_rank, x_orderPlace, x_frameMethod, x_framePlace, x_frameToken, x_frameOperators, x_frameArgument, x_operatorKind, x_operatorValue, x_operatorLeft, x_workedOut)) : wpX_takeArguments post (x_classCount, x_superCount, nI no, x_draftSpecialCount, x_state, x_stepCount, x_latestValue, x_enterGeneric, x_enterPlace, x_frameCount, x_operatorCount, x_valueCount, x_lineClass, x_lineLength, x_isSealed, x_classHasSlot, x_classSlot, x_superDraft, x_objectClass, x_objectHasSlot, x_objectSlot, x_parameterCount, x_methodGeneric, x_specialiser, x_tokenKind, x_tokenValue, x_tokenCount, x_argument, x_rank, x_orderPlace, x_frameMethod, x_framePlace, x_frameToken, x_frameOperators, x_frameArgument, x_operatorKind, x_operatorValue, x_operatorLeft, x_workedOut) (nI g) a b c := by
  unfold wpX_takeArguments
  refine mx_isGeneric_t hg (br_f (by decide) (nm_e (nm_e (nm_r (e' := ca_ag x_argument 0 a b c) rfl ?_))))
  refine loop_0 (σ := Unit) (fun n i _ => wX_takeArguments_36 post (nI g) x_classCount x_superCount (nI no) x_draftSpecialCount x_state x_stepCount x_latestValue x_enterGeneric x_enterPlace x_frameCount x_operatorCount x_valueCount x_lineClass x_lineLength x_isSealed x_classHasSlot x_classSlot x_superDraft x_objectClass x_objectHasSlot x_objectSlot x_parameterCount x_methodGeneric x_specialiser x_tokenKind x_tokenValue x_tokenCount (ca_ag x_argument 0 a b c) x_rank x_orderPlace x_frameMethod x_framePlace x_frameToken x_frameOperators x_frameArgument x_operatorKind x_operatorValue x_operatorLeft x_workedOut n (nI i)) (fun i _ => ∀ k, k < i → rl_val no (ca_tr a b c k)) p () lt_0 ?_ ?_
  · intro n _ hI
    refine ⟨pk_in g 5 hg, ?_⟩
    rw [bs_clk (n := g) (by omega), ep]
    exact br_t (nI_le (Nat.le_refl _) (by omega)) (h1 hI)
  · intro n i _ hi hI k
    refine ⟨pk_in g 5 hg, ?_⟩
    rw [bs_clk (n := g) (by omega), ep]
    refine br_f (nI_ge hi (by omega)) ⟨pk_in i 3 (by omega), ?_⟩
    have e := ca_ag_k (f := x_argument) (b := 0) (x := a) (y := b) (z := c) (k := i) (by omega)
    rw [Nat.zero_add] at e
    rw [bs_clk (n := i) (by omega), e]
    by_cases hv : rl_val no (ca_tr a b c i)
    · exact mx_isValue_t hno hv (br_f (by decide) (nm_r (nI_1 i) (k () (lt_s hI hv))))
    · exact mx_isValue_f hno hv (br_t rfl (h0 (fun z => hv (z i hi))))
theorem my_callable {post : Int32 → Prop} {nc no g p : Nat} {a b c : Int64} (h2 : 2 ≤ nc) (hnc : nc ≤ 16) (hno : no ≤ 20) (hoc : ∀ k, k < no → ∃ c, c < nc ∧ y_classOfObject k = nI c) (hg : g < 5) (hp1 : 1 ≤ p) (hp3 : p ≤ 3) (ep : y_parameters g = nI p) (h1 : (∀ k, k < p → rl_val no (ca_tr a b c k)) → post 1) (h0 : (¬ ∀ k, k < p → rl_val no (ca_tr a b c k)) → post 0) : wpY_callable post (y_classes, y_supers, nI no, y_specials, y_depth, y_ops, y_held, y_fault, y_steps, y_shownSteps, y_result, y_line, y_lineLength, y_has, y_sealed, y_initial, y_drafted, y_draftHas, y_draftInitial, y_lists, y_listLength, y_gone, y_classOfObject, y_slots, y_parameters, y_generic, y_single, y_special, y_kind, y_tokens, y_with, y_methodAt, y_pc, y_chosen, y_many, y_reached, y_opsAt, y_broken, y_arguments, y_operands, y_operator, y_got) (nI g) a b c := by
  have hkc : ∀ v, (rl_val no v ∧ ¬ ob_kc y_classOfObject no v < 0) ∨ (¬ rl_val no v ∧ ob_kc y_classOfObject no v < 0) := by
    intro v
    by_cases hv : rl_val no v
    · obtain ⟨d, hd, _, ek⟩ := or_cv_v h2 hno hoc hv
      exact Or.inl ⟨hv, by rw [ek]; exact nI_pos (by omega)⟩
    · exact Or.inr ⟨hv, by rw [ob_kc_n hv]; decide⟩
  have h42 : (∀ k, k < p → k < 2 → rl_val no (ca_tr a b c k)) → wY_callable_42 post c (nI p) y_classes y_supers (nI no) y_specials y_depth y_ops y_held y_fault y_steps y_shownSteps y_result y_line y_lineLength y_has y_sealed y_initial y_drafted y_draftHas y_draftInitial y_lists y_listLength y_gone y_classOfObject y_slots y_parameters y_generic y_single y_special y_kind y_tokens y_with y_methodAt y_pc y_chosen y_many y_reached y_opsAt y_broken y_arguments y_operands y_operator y_got := by
    intro hab
    refine pk_lt p 3 (fun hlt => h1 (fun k hk => hab k hk (by omega))) (fun hge => my_classOf hno ?_)
    rcases hkc c with ⟨hv, hz⟩ | ⟨hv, hz⟩
    · refine br_f hz (h1 (fun k hk => ?_))
      by_cases e : k = 2
      · rw [e]; exact hv
      · exact hab k hk (by omega)
    · exact br_t hz (h0 (fun z => hv (z 2 (by omega))))
  unfold wpY_callable
  refine my_out_t (n := 5) hg (by omega) (br_t rfl ⟨pk_in g 5 hg, nm_r (e' := nI p) (by rw [bs_clk (by omega), ep]) (my_classOf hno ?_)⟩)
  rcases hkc a with ⟨hva, hza⟩ | ⟨hva, hza⟩
  · refine br_f hza (pk_lt p 2 (fun hlt => h42 (fun k hk _ => ?_)) (fun hge => my_classOf hno ?_))
    · have e : k = 0 := by omega
      rw [e]; exact hva
    · rcases hkc b with ⟨hvb, hzb⟩ | ⟨hvb, hzb⟩
      · refine br_f hzb (h42 (fun k hk h2 => ?_))
        have e : k = 0 ∨ k = 1 := by omega
        rcases e with rfl | rfl
        · exact hva
        · exact hvb
      · exact br_t hzb (h0 (fun z => hvb (z 1 (by omega))))
  · exact br_t hza (h0 (fun z => hva (z 0 (by omega))))
theorem my_bring {post : SY → Prop} {lv : Nat} {a b c : Int64} (hlv : lv ≤ 8) (hp : post (y_classes, y_supers, y_objects, y_specials, y_depth, y_ops, y_held, y_fault, y_steps, y_shownSteps, y_result, y_line, y_lineLength, y_has, y_sealed, y_initial, y_drafted, y_draftHas, y_draftInitial, y_lists, y_listLength, y_gone, y_classOfObject, y_slots, y_parameters, y_generic, y_single, y_special, y_kind, y_tokens, y_with, y_methodAt, y_pc, y_chosen, y_many, y_reached, y_opsAt, y_broken, ca_ag y_arguments (3 * lv) a b c, y_operands, y_operator, y_got)) : wpY_bring post (y_classes, y_supers, y_objects, y_specials, y_depth, y_ops, y_held, y_fault, y_steps, y_shownSteps, y_result, y_line, y_lineLength, y_has, y_sealed, y_initial, y_drafted, y_draftHas, y_draftInitial, y_lists, y_listLength, y_gone, y_classOfObject, y_slots, y_parameters, y_generic, y_single, y_special, y_kind, y_tokens, y_with, y_methodAt, y_pc, y_chosen, y_many, y_reached, y_opsAt, y_broken, y_arguments, y_operands, y_operator, y_got) (nI lv) a b c := by
  have e1 : (3 : Int32) * nI lv + 1 = nI (3 * lv + 1) := by rw [bs_ml 3 lv, nI_1]
  have e2 : (3 : Int32) * nI lv + 2 = nI (3 * lv + 2) := by
    rw [bs_ml 3 lv, show (2 : Int32) = nI 2 from rfl, nI_add]
  refine ⟨pk_in (3 * lv) 27 (by omega) (bs_ml 3 lv), nm_r (e' := vp_updL y_arguments (3 * lv) a) (by rw [bs_ml 3 lv, bs_clk (by omega)]) ⟨pk_in (3 * lv + 1) 27 (by omega) e1, nm_r (e' := vp_updL (vp_updL y_arguments (3 * lv) a) (3 * lv + 1) b) (by rw [e1, bs_clk (by omega)]) ⟨pk_in (3 * lv + 2) 27 (by omega) e2, nm_r (e' := ca_ag y_arguments (3 * lv) a b c) (by rw [e2, bs_clk (by omega)]; rfl) hp⟩⟩⟩
end
theorem i_vc_order {k : Nat} {u : SX} {v : SY} (I : i_Rel k u v) (hk : k + 9 ≤ 4608) (v1 : Int32) (a1 : Int64) (a2 : Int64) (a3 : Int64) (v8 : Int32) : wpX_order (fun r u' => wpY_order (fun r' v' => r' = r ∧ i_Rel (k + 9) u' v') v v1 a1 a2 a3 v8) u v1 a1 a2 a3 v8 := by
  obtain ⟨x_classCount, x_superCount, x_objectCount, x_draftSpecialCount, x_state, x_stepCount, x_latestValue, x_enterGeneric, x_enterPlace, x_frameCount, x_operatorCount, x_valueCount, x_lineClass, x_lineLength, x_isSealed, x_classHasSlot, x_classSlot, x_superDraft, x_objectClass, x_objectHasSlot, x_objectSlot, x_parameterCount, x_methodGeneric, x_specialiser, x_tokenKind, x_tokenValue, x_tokenCount, x_argument, x_rank, x_orderPlace, x_frameMethod, x_framePlace, x_frameToken, x_frameOperators, x_frameArgument, x_operatorKind, x_operatorValue, x_operatorLeft, x_workedOut⟩ := u
  obtain ⟨y_classes, y_supers, y_objects, y_specials, y_depth, y_ops, y_held, y_fault, y_steps, y_shownSteps, y_result, y_line, y_lineLength, y_has, y_sealed, y_initial, y_drafted, y_draftHas, y_draftInitial, y_lists, y_listLength, y_gone, y_classOfObject, y_slots, y_parameters, y_generic, y_single, y_special, y_kind, y_tokens, y_with, y_methodAt, y_pc, y_chosen, y_many, y_reached, y_opsAt, y_broken, y_arguments, y_operands, y_operator, y_got⟩ := v
  obtain ⟨nc, no, ns, nd, rfl, rfl, rfl, rfl, rfl, rfl, rfl, rfl, rfl, rfl, rfl, rfl, rfl, rfl, rfl, rfl, rfl, rfl, rfl, rfl, hcls, hsup, hslt, hobj, hpar, hgen, htok, hbod, hspc, hunq⟩ := I
  have J : ∀ (ag : Nat → Int64) (rk op : Nat → Int32) (agy : Nat → Int64) (ch mn bk : Nat → Int32), i_Rel (k + 9) (nI nc, nI ns, nI no, nI nd, x_state, x_stepCount, x_latestValue, x_enterGeneric, x_enterPlace, x_frameCount, x_operatorCount, x_valueCount, x_lineClass, x_lineLength, x_isSealed, x_classHasSlot, x_classSlot, x_superDraft, x_objectClass, x_objectHasSlot, x_objectSlot, x_parameterCount, x_methodGeneric, x_specialiser, x_tokenKind, x_tokenValue, x_tokenCount, ag, rk, op, x_frameMethod, x_framePlace, x_frameToken, x_frameOperators, x_frameArgument, x_operatorKind, x_operatorValue, x_operatorLeft, x_workedOut) (nI nc, nI ns, nI no, nI nd, y_depth, y_ops, y_held, y_fault, y_steps, x_stepCount, x_latestValue, x_lineClass, x_lineLength, y_has, x_isSealed, y_initial, x_superDraft, y_draftHas, y_draftInitial, y_lists, y_listLength, y_gone, x_objectClass, y_slots, x_parameterCount, x_methodGeneric, y_single, y_special, x_tokenKind, x_tokenCount, x_tokenValue, y_methodAt, y_pc, ch, mn, y_reached, y_opsAt, bk, agy, y_operands, y_operator, y_got) := fun ag rk op agy ch mn bk => ⟨nc, no, ns, nd, rfl, rfl, rfl, rfl, rfl, rfl, rfl, rfl, rfl, rfl, rfl, rfl, rfl, rfl, rfl, rfl, rfl, rfl, rfl, rfl, hcls, hsup, hslt, hobj, hpar, hgen, htok, hbod, hspc, hunq⟩
  have hn : nc ≤ 16 := hcls.2.1
  have hno := hobj.1
  have hbad : ∀ (ag : Nat → Int64) (g : Nat), g < 5 → (∀ p, p ≤ 3 → x_parameterCount g = nI p → ¬ ∀ q, q < p → rl_val no (ca_tr a1 a2 a3 q)) → wpY_order (fun r' v' => r' = (-1 : Int32) ∧ i_Rel (k + 9) (nI nc, nI ns, nI no, nI nd, x_state, x_stepCount, x_latestValue, x_enterGeneric, x_enterPlace, x_frameCount, x_operatorCount, x_valueCount, x_lineClass, x_lineLength, x_isSealed, x_classHasSlot, x_classSlot, x_superDraft, x_objectClass, x_objectHasSlot, x_objectSlot, x_parameterCount, x_methodGeneric, x_specialiser, x_tokenKind, x_tokenValue, x_tokenCount, ag, x_rank, x_orderPlace, x_frameMethod, x_framePlace, x_frameToken, x_frameOperators, x_frameArgument, x_operatorKind, x_operatorValue, x_operatorLeft, x_workedOut) v') (nI nc, nI ns, nI no, nI nd, y_depth, y_ops, y_held, y_fault, y_steps, x_stepCount, x_latestValue, x_lineClass, x_lineLength, y_has, x_isSealed, y_initial, x_superDraft, y_draftHas, y_draftInitial, y_lists, y_listLength, y_gone, x_objectClass, y_slots, x_parameterCount, x_methodGeneric, y_single, y_special, x_tokenKind, x_tokenCount, x_tokenValue, y_methodAt, y_pc, y_chosen, y_many, y_reached, y_opsAt, y_broken, y_arguments, y_operands, y_operator, y_got) (nI g) a1 a2 a3 v8 := by
    intro ag g hg hb
    obtain ⟨p, hp1, hp3, ep⟩ := hpar g hg
    unfold wpY_order
    exact my_callable hcls.1 hn hno hobj.2.1 hg hp1 hp3 ep (fun h => absurd h (hb p hp3 ep)) (fun _ => br_t rfl ⟨rfl, J _ _ _ _ _ _ _⟩)
  rcases bs_ar2 v1 (n := 5) (by omega) with h | ⟨g, hg, rfl⟩
  · have fin : wpY_order (fun r' v' => r' = (-1 : Int32) ∧ i_Rel (k + 9) (nI nc, nI ns, nI no, nI nd, x_state, x_stepCount, x_latestValue, x_enterGeneric, x_enterPlace, x_frameCount, x_operatorCount, x_valueCount, x_lineClass, x_lineLength, x_isSealed, x_classHasSlot, x_classSlot, x_superDraft, x_objectClass, x_objectHasSlot, x_objectSlot, x_parameterCount, x_methodGeneric, x_specialiser, x_tokenKind, x_tokenValue, x_tokenCount, x_argument, x_rank, x_orderPlace, x_frameMethod, x_framePlace, x_frameToken, x_frameOperators, x_frameArgument, x_operatorKind, x_operatorValue, x_operatorLeft, x_workedOut) v') (nI nc, nI ns, nI no, nI nd, y_depth, y_ops, y_held, y_fault, y_steps, x_stepCount, x_latestValue, x_lineClass, x_lineLength, y_has, x_isSealed, y_initial, x_superDraft, y_draftHas, y_draftInitial, y_lists, y_listLength, y_gone, x_objectClass, y_slots, x_parameterCount, x_methodGeneric, y_single, y_special, x_tokenKind, x_tokenCount, x_tokenValue, y_methodAt, y_pc, y_chosen, y_many, y_reached, y_opsAt, y_broken, y_arguments, y_operands, y_operator, y_got) v1 a1 a2 a3 v8 := by
      unfold wpY_order
      unfold wpY_callable
      exact my_out_f (q := 5) h (br_f (by decide) (br_t rfl ⟨rfl, J _ _ _ _ _ _ _⟩))
    unfold wpX_order
    refine br_c (fun _ => fin) (fun _ => ?_)
    unfold wpX_takeArguments
    exact mx_isGeneric_f h (br_t rfl (br_t rfl fin))
  · obtain ⟨p, hp1, hp3, ep⟩ := hpar g hg
    unfold wpX_order
    refine br_c (fun hneg => ?_) (fun hpos => ?_)
    · unfold wpY_order
      refine my_callable hcls.1 hn hno hobj.2.1 hg hp1 hp3 ep (fun h => br_f (by decide) (br_f ?_ ⟨rfl, J _ _ _ _ _ _ _⟩)) (fun _ => br_t rfl ⟨rfl, J _ _ _ _ _ _ _⟩)
      exact Int32.not_le.mpr hneg
    · refine mx_takeArguments hno hg hp3 ep (fun hv => br_f (by decide) ?_) (fun hv => br_t rfl ?_)
      · have hW : or_W nc no g p x_lineClass x_lineLength x_objectClass x_parameterCount (ca_tr a1 a2 a3) := ⟨hcls, hno, hobj.2.1, hg, hp1, hp3, ep, hv⟩
        refine mx_findOrder hW (fun q hq => ?_) (fun rk' op' ho => ?_)
        · have e := ca_ag_k (f := x_argument) (b := 0) (x := a1) (y := a2) (z := a3) (k := q) (by omega)
          rw [Nat.zero_add] at e
          exact e
        · have fin : ∀ r : Int32, (or_mn (or_R x_lineClass x_lineLength x_objectClass x_specialiser (ca_tr a1 a2 a3) p) p (or_L x_methodGeneric (or_R x_lineClass x_lineLength x_objectClass x_specialiser (ca_tr a1 a2 a3) p) g p) ≤ v8.toNatClampNeg → r = bs_ci (or_sq (or_R x_lineClass x_lineLength x_objectClass x_specialiser (ca_tr a1 a2 a3) p) p (or_L x_methodGeneric (or_R x_lineClass x_lineLength x_objectClass x_specialiser (ca_tr a1 a2 a3) p) g p) (or_mn (or_R x_lineClass x_lineLength x_objectClass x_specialiser (ca_tr a1 a2 a3) p) p (or_L x_methodGeneric (or_R x_lineClass x_lineLength x_objectClass x_specialiser (ca_tr a1 a2 a3) p) g p)) = 0) (-1) (-2)) → (v8.toNatClampNeg < or_mn (or_R x_lineClass x_lineLength x_objectClass x_specialiser (ca_tr a1 a2 a3) p) p (or_L x_methodGeneric (or_R x_lineClass x_lineLength x_objectClass x_specialiser (ca_tr a1 a2 a3) p) g p) → r = nI (or_ld (or_R x_lineClass x_lineLength x_objectClass x_specialiser (ca_tr a1 a2 a3) p) p (or_sq (or_R x_lineClass x_lineLength x_objectClass x_specialiser (ca_tr a1 a2 a3) p) p (or_L x_methodGeneric (or_R x_lineClass x_lineLength x_objectClass x_specialiser (ca_tr a1 a2 a3) p) g p) v8.toNatClampNeg))) → wpY_order (fun r' v' => r' = r ∧ i_Rel (k + 9) (nI nc, nI ns, nI no, nI nd, x_state, x_stepCount, x_latestValue, x_enterGeneric, x_enterPlace, x_frameCount, x_operatorCount, x_valueCount, x_lineClass, x_lineLength, x_isSealed, x_classHasSlot, x_classSlot, x_superDraft, x_objectClass, x_objectHasSlot, x_objectSlot, x_parameterCount, x_methodGeneric, x_specialiser, x_tokenKind, x_tokenValue, x_tokenCount, ca_ag x_argument 0 a1 a2 a3, rk', op', x_frameMethod, x_framePlace, x_frameToken, x_frameOperators, x_frameArgument, x_operatorKind, x_operatorValue, x_operatorLeft, x_workedOut) v') (nI nc, nI ns, nI no, nI nd, y_depth, y_ops, y_held, y_fault, y_steps, x_stepCount, x_latestValue, x_lineClass, x_lineLength, y_has, x_isSealed, y_initial, x_superDraft, y_draftHas, y_draftInitial, y_lists, y_listLength, y_gone, x_objectClass, y_slots, x_parameterCount, x_methodGeneric, y_single, y_special, x_tokenKind, x_tokenCount, x_tokenValue, y_methodAt, y_pc, y_chosen, y_many, y_reached, y_opsAt, y_broken, y_arguments, y_operands, y_operator, y_got) (nI g) a1 a2 a3 v8 := by
            obtain ⟨w, hw, rfl⟩ := nI_of hpos
            rw [bs_clk (n := w) hw]
            intro r hr1 hr2
            have hle := or_mn_le (or_R x_lineClass x_lineLength x_objectClass x_specialiser (ca_tr a1 a2 a3) p) p (or_L x_methodGeneric (or_R x_lineClass x_lineLength x_objectClass x_specialiser (ca_tr a1 a2 a3) p) g p)
            unfold wpY_order
            refine my_callable hcls.1 hn hno hobj.2.1 hg hp1 hp3 ep (fun _ => br_f (by decide) (br_t (bs_ge0 hw) ?_)) (fun z => absurd hv z)
            refine my_bring (lv := 0) (by omega) ?_
            refine my_sort (lv := 0) (SP := x_specialiser) (ar := ca_tr a1 a2 a3) rfl hW (by omega) (fun q hq => ca_ag_k (by omega)) (fun m hm e q hq => hspc.2.2 m g p hm hg hp3 e ep q hq) (fun ch' mn' bk' hS => ?_)
            obtain ⟨s1, s2, s3, _, _⟩ := hS
            dsimp only
            rw [s1]
            refine pk_le (or_mn (or_R x_lineClass x_lineLength x_objectClass x_specialiser (ca_tr a1 a2 a3) p) p (or_L x_methodGeneric (or_R x_lineClass x_lineLength x_objectClass x_specialiser (ca_tr a1 a2 a3) p) g p)) w (fun h => ?_) (fun h => ⟨pk_in w 192 (by omega), ?_, J _ _ _ _ _ _ _⟩)
            · rw [s2]
              by_cases z : or_sq (or_R x_lineClass x_lineLength x_objectClass x_specialiser (ca_tr a1 a2 a3) p) p (or_L x_methodGeneric (or_R x_lineClass x_lineLength x_objectClass x_specialiser (ca_tr a1 a2 a3) p) g p) (or_mn (or_R x_lineClass x_lineLength x_objectClass x_specialiser (ca_tr a1 a2 a3) p) p (or_L x_methodGeneric (or_R x_lineClass x_lineLength x_objectClass x_specialiser (ca_tr a1 a2 a3) p) g p)) = 0
              · rw [bs_ct z]
                have e := hr1 h
                rw [bs_ct z] at e
                exact br_t rfl ⟨e.symm, J _ _ _ _ _ _ _⟩
              · rw [bs_cf z]
                have e := hr1 h
                rw [bs_cf z] at e
                exact br_f (by decide) ⟨e.symm, J _ _ _ _ _ _ _⟩
            · have e := s3 w h
              rw [show 24 * 0 + w = w by omega] at e
              rw [bs_clk hw, e, hr2 h]
          obtain ⟨w, hw, rfl⟩ := nI_of hpos
          rw [bs_clk (n := w) hw] at fin
          have hle := or_mn_le (or_R x_lineClass x_lineLength x_objectClass x_specialiser (ca_tr a1 a2 a3) p) p (or_L x_methodGeneric (or_R x_lineClass x_lineLength x_objectClass x_specialiser (ca_tr a1 a2 a3) p) g p)
          refine pk_le 25 w (fun h => fin _ (fun h2 => ?_) (fun h2 => by omega)) (fun h => ⟨pk_in w 25 h, fin _ (fun h2 => ?_) (fun h2 => ?_)⟩)
          · rw [ho 24 (by omega)]
            exact or_ox_ge (by omega)
          · rw [bs_clk hw, ho w h]
            exact or_ox_ge h2
          · rw [bs_clk hw, ho w h]
            exact or_ox_lt h2
      · exact hbad _ g hg (fun p' hp' ep' => by rw [ep] at ep'; have := bs_inj (by omega) (by omega) ep'; subst this; exact hv)
