/-! the simulation: NEXT and MAKE -/
section
variable {x_classCount : Int32} {x_superCount : Int32} {x_objectCount : Int32} {x_draftSpecialCount : Int32} {x_state : Int32} {x_stepCount : Int32} {x_latestValue : Int64} {x_enterGeneric : Int32} {x_enterPlace : Int32} {x_frameCount : Int32} {x_operatorCount : Int32} {x_valueCount : Int32} {x_lineClass : Nat → Int32} {x_lineLength : Nat → Int32} {x_isSealed : Nat → Int32} {x_classHasSlot : Nat → Int32} {x_classSlot : Nat → Int32} {x_superDraft : Nat → Int32} {x_objectClass : Nat → Int32} {x_objectHasSlot : Nat → Int32} {x_objectSlot : Nat → Int64} {x_parameterCount : Nat → Int32} {x_methodGeneric : Nat → Int32} {x_specialiser : Nat → Int64} {x_tokenKind : Nat → Int32} {x_tokenValue : Nat → Int32} {x_tokenCount : Nat → Int32} {x_argument : Nat → Int64} {x_rank : Nat → Int32} {x_orderPlace : Nat → Int32} {x_frameMethod : Nat → Int32} {x_framePlace : Nat → Int32} {x_frameToken : Nat → Int32} {x_frameOperators : Nat → Int32} {x_frameArgument : Nat → Int64} {x_operatorKind : Nat → Int32} {x_operatorValue : Nat → Int32} {x_operatorLeft : Nat → Int32} {x_workedOut : Nat → Int64} {y_classes : Int32} {y_supers : Int32} {y_objects : Int32} {y_specials : Int32} {y_depth : Int32} {y_ops : Int32} {y_held : Int32} {y_fault : Int32} {y_steps : Int32} {y_shownSteps : Int32} {y_result : Int64} {y_line : Nat → Int32} {y_lineLength : Nat → Int32} {y_has : Nat → Int32} {y_sealed : Nat → Int32} {y_initial : Nat → Int32} {y_drafted : Nat → Int32} {y_draftHas : Nat → Int32} {y_draftInitial : Nat → Int32} {y_lists : Nat → Int32} {y_listLength : Nat → Int32} {y_gone : Nat → Int32} {y_classOfObject : Nat → Int32} {y_slots : Nat → Int64} {y_parameters : Nat → Int32} {y_generic : Nat → Int32} {y_single : Nat → Int32} {y_special : Nat → Int64} {y_kind : Nat → Int32} {y_tokens : Nat → Int32} {y_with : Nat → Int32} {y_methodAt : Nat → Int32} {y_pc : Nat → Int32} {y_chosen : Nat → Int32} {y_many : Nat → Int32} {y_reached : Nat → Int32} {y_opsAt : Nat → Int32} {y_broken : Nat → Int32} {y_arguments : Nat → Int64} {y_operands : Nat → Int64} {y_operator : Nat → Int32} {y_got : Nat → Int32} {D : (Int32 → SY → Prop) → Prop} {kk nc no0 ns nd : Nat}
theorem cm_W_next {μ no s tt m pl pc : Nat} {ar : Nat → Int64} {its : List cm_It} {K : List cm_Fr} (hC : cm_C nc no0 ns nd x_lineClass x_lineLength x_methodGeneric x_parameterCount x_specialiser x_tokenKind x_tokenValue x_tokenCount x_isSealed x_classHasSlot x_classSlot x_superDraft y_has y_initial y_draftHas y_draftInitial y_lists y_listLength y_gone y_single y_special y_shownSteps) (ihW : cm_PW D kk nc no0 ns nd x_lineClass x_lineLength x_methodGeneric x_parameterCount x_specialiser x_tokenKind x_tokenValue x_tokenCount x_isSealed x_classHasSlot x_classSlot x_superDraft y_has y_initial y_draftHas y_draftInitial y_lists y_listLength y_gone y_single y_special y_shownSteps μ) (h : cm_J nc (1) ((m, pl, pc, ar, its)) (K) (s) (no) x_lineClass x_lineLength x_methodGeneric x_parameterCount x_specialiser x_tokenKind x_tokenValue x_tokenCount x_objectClass x_objectHasSlot x_objectSlot x_frameMethod x_framePlace x_frameToken x_frameOperators x_frameArgument x_operatorKind x_operatorValue x_operatorLeft x_workedOut y_slots y_methodAt y_reached y_pc y_opsAt y_arguments y_operator y_got y_operands y_many y_broken y_chosen) (hn : no0 ≤ no) (hs : s < 120) (hpc : pc < 16) (ek : x_tokenKind (16 * m + pc) = nI 2) (hmu : cm_fi (cm_A x_parameterCount x_tokenKind x_tokenValue) s ((m, pl, pc, ar, its) :: K) 0 ≤ μ + 1) (htt : tt + cm_fi (cm_A x_parameterCount x_tokenKind x_tokenValue) s ((m, pl, pc, ar, its) :: K) 0 ≤ 4000)
    (hY : ∀ post' : Int32 → SY → Prop, (∃ n, wY_call_62 post' n (nI nc) (nI ns) (nI no) (nI nd) (nI (K.length + 1)) (nI (cm_ko cm_al ((m, pl, pc, ar, its) :: K))) (nI (cm_kv cm_al ((m, pl, pc, ar, its) :: K))) 0 (nI s) y_shownSteps (-9223372036854775808) x_lineClass x_lineLength y_has x_isSealed y_initial x_superDraft y_draftHas y_draftInitial y_lists y_listLength y_gone x_objectClass y_slots x_parameterCount x_methodGeneric y_single y_special x_tokenKind x_tokenCount x_tokenValue y_methodAt y_pc y_chosen y_many y_reached y_opsAt y_broken y_arguments y_operands y_operator y_got) → D post') : ∀ n, cm_fi (cm_A x_parameterCount x_tokenKind x_tokenValue) s ((m, pl, pc, ar, its) :: K) 0 < n + 1 → wX_call_23 (fun r u' => D (fun r' v' => r' = r ∧ i_Rel kk u' v')) (n + 1) (nI tt) (nI nc) (nI ns) (nI no) (nI nd) (-2) (nI s) (-9223372036854775808) x_enterGeneric x_enterPlace (nI (K.length + 1)) (nI (cm_ko (cm_vx x_tokenKind) ((m, pl, pc, ar, its) :: K))) (nI (cm_kv (cm_vx x_tokenKind) ((m, pl, pc, ar, its) :: K))) x_lineClass x_lineLength x_isSealed x_classHasSlot x_classSlot x_superDraft x_objectClass x_objectHasSlot x_objectSlot x_parameterCount x_methodGeneric x_specialiser x_tokenKind x_tokenValue x_tokenCount x_argument x_rank x_orderPlace x_frameMethod x_framePlace x_frameToken x_frameOperators x_frameArgument x_operatorKind x_operatorValue x_operatorLeft x_workedOut := by
  obtain ⟨k1, k2, k3, k4⟩ := cm_J_cnt h
  have hd := h.2.2.2.1
  have hX := h.2.2.2.2.2.2.1.1
  have hYl := h.2.2.2.2.2.2.2.1.1
  have ho := h.1
  have eMX : x_frameMethod K.length = nI m := hX.1
  have ePX : x_framePlace K.length = nI pl := hX.2.1
  have eTX : x_frameToken K.length = nI pc := hX.2.2.1
  have eMY : y_methodAt K.length = nI m := hYl.1
  have ePY : y_reached K.length = nI pl := hYl.2.1
  have eTY : y_pc K.length = nI pc := hYl.2.2.1
  have hJ := cm_mv_pc hC.2.2.2.2.2.1 h hs (by rw [cm_kind ek]; rfl) (wo' := x_workedOut) (fun j hj => rfl)
  have hV := cm_JV hJ
  obtain ⟨g, p, t, b1, b2, b3, b4, b5, b6, b7, b8, b9, b10, b11, b12, b13⟩ := h.2.2.2.2.1
  have hly := h.2.2.2.2.2.2.2.2.1 g p b2 b4 b6 b7
  dsimp only at b1 b6 b8 b12 b13 hly
  obtain ⟨l1, l2, l3⟩ := hly
  have enp := cm_np_e b2 b4 b6 b7
  have eAX : ∀ q, q < p → x_frameArgument (3 * K.length + q) = ar q := fun q hq => hX.2.2.2.2.1 q (by show q < cm_np _ _ m; rw [enp]; exact hq)
  have eAY : ∀ q, q < p → y_arguments (3 * K.length + q) = ar q := fun q hq => hYl.2.2.2.2.1 q (by show q < cm_np _ _ m; rw [enp]; exact hq)
  have hW : or_W nc no g p x_lineClass x_lineLength x_objectClass x_parameterCount ar := ⟨hC.1, ho.1, ho.2.1, b2, b3, b4, b7, b12⟩
  have hle := or_mn_le (or_R x_lineClass x_lineLength x_objectClass x_specialiser ar p) p (or_L x_methodGeneric (or_R x_lineClass x_lineLength x_objectClass x_specialiser ar p) g p)
  have e1 : cm_kl (cm_A x_parameterCount x_tokenKind x_tokenValue) ((m, pl, pc + 1, ar, its) :: K) = cm_kl (cm_A x_parameterCount x_tokenKind x_tokenValue) ((m, pl, pc, ar, its) :: K) := rfl
  have e2 : ((m, pl, pc + 1, ar, its) :: K).length = K.length + 1 := rfl
  have e3 : ((m, pl, pc, ar, its) :: K).length = K.length + 1 := rfl
  unfold cm_fi at hmu htt
  intro n hn'
  unfold cm_fi at hn'
  obtain ⟨n1, rfl⟩ : ∃ n1, n = n1 + 1 := ⟨n - 1, by omega⟩
  refine mx_cl_W (by omega) (fun P hP => mx_wk_next hs hd b1 hpc eMX eTX ePX ek (fun ag hag => hP _ _ _ _ _ _ _ _ _ _ _ _ _ _ _ _ _ _ _ _ _ _ _ _ _ _ _ _ _ _ _ _ _ _ _ _ _ _ _ ?_))
  rw [b6]
  have hax : ∀ q, q < p → ag q = ar q := fun q hq => by rw [hag q (by omega), eAX q hq]
  have hbro : y_broken K.length = 0 ∨ y_broken K.length = 1 := by
    rw [l2]
    by_cases z : or_sq (or_R x_lineClass x_lineLength x_objectClass x_specialiser ar p) p (or_L x_methodGeneric (or_R x_lineClass x_lineLength x_objectClass x_specialiser ar p) g p) (or_mn (or_R x_lineClass x_lineLength x_objectClass x_specialiser ar p) p (or_L x_methodGeneric (or_R x_lineClass x_lineLength x_objectClass x_specialiser ar p) g p)) = 0
    · rw [bs_ct z]; exact Or.inl rfl
    · rw [bs_cf z]; exact Or.inr rfl
  have fin : ∀ F : Int32, ¬ F = 0 → 0 ≤ F → (∀ post' : SY → Prop, post' (nI nc, nI ns, nI no, nI nd, nI (K.length + 1), nI (cm_ko cm_al ((m, pl, pc, ar, its) :: K)), nI (cm_kv cm_al ((m, pl, pc, ar, its) :: K)), F, nI (s + 1), y_shownSteps, -9223372036854775808, x_lineClass, x_lineLength, y_has, x_isSealed, y_initial, x_superDraft, y_draftHas, y_draftInitial, y_lists, y_listLength, y_gone, x_objectClass, y_slots, x_parameterCount, x_methodGeneric, y_single, y_special, x_tokenKind, x_tokenCount, x_tokenValue, y_methodAt, upd y_pc K.length (nI (pc + 1)), y_chosen, y_many, y_reached, y_opsAt, y_broken, y_arguments, y_operands, y_operator, y_got) → wpY_next post' (nI nc, nI ns, nI no, nI nd, nI (K.length + 1), nI (cm_ko cm_al ((m, pl, pc, ar, its) :: K)), nI (cm_kv cm_al ((m, pl, pc, ar, its) :: K)), 0, nI (s + 1), y_shownSteps, -9223372036854775808, x_lineClass, x_lineLength, y_has, x_isSealed, y_initial, x_superDraft, y_draftHas, y_draftInitial, y_lists, y_listLength, y_gone, x_objectClass, y_slots, x_parameterCount, x_methodGeneric, y_single, y_special, x_tokenKind, x_tokenCount, x_tokenValue, y_methodAt, upd y_pc K.length (nI (pc + 1)), y_chosen, y_many, y_reached, y_opsAt, y_broken, y_arguments, y_operands, y_operator, y_got)) → ∀ rk op, wX_call_23 (fun r u' => D (fun r' v' => r' = r ∧ i_Rel kk u' v')) n1 (nI (tt + 1 + 1)) (nI nc) (nI ns) (nI no) (nI nd) F (nI (s + 1)) (-9223372036854775808) (nI g) (nI (pl + 1)) (nI (K.length + 1)) (nI (cm_ko (cm_vx x_tokenKind) ((m, pl, pc, ar, its) :: K))) (nI (cm_kv (cm_vx x_tokenKind) ((m, pl, pc, ar, its) :: K))) x_lineClass x_lineLength x_isSealed x_classHasSlot x_classSlot x_superDraft x_objectClass x_objectHasSlot x_objectSlot x_parameterCount x_methodGeneric x_specialiser x_tokenKind x_tokenValue x_tokenCount ag rk op x_frameMethod x_framePlace (upd x_frameToken K.length (nI (pc + 1))) x_frameOperators x_frameArgument x_operatorKind x_operatorValue x_operatorLeft x_workedOut := by
    intro F hF0 hF hE rk op
    exact cm_halt (y_depth := nI (K.length + 1)) (y_ops := nI (cm_ko cm_al ((m, pl, pc, ar, its) :: K))) (y_held := nI (cm_kv cm_al ((m, pl, pc, ar, its) :: K))) (y_shownSteps := y_shownSteps) (y_has := y_has) (y_initial := y_initial) (y_draftHas := y_draftHas) (y_draftInitial := y_draftInitial) (y_lists := y_lists) (y_listLength := y_listLength) (y_gone := y_gone) (y_slots := y_slots) (y_single := y_single) (y_special := y_special) (y_methodAt := y_methodAt) (y_pc := upd y_pc K.length (nI (pc + 1))) (y_chosen := y_chosen) (y_many := y_many) (y_reached := y_reached) (y_opsAt := y_opsAt) (y_broken := y_broken) (y_arguments := y_arguments) (y_operands := y_operands) (y_operator := y_operator) (y_got := y_got) hF0 hF hC hn ho (fun post' he => by
      obtain ⟨n2, hcl⟩ := he
      exact hY post' ⟨n2 + 1, my_cl_work (by omega) (my_wk_next hs hd b1 hpc eMY eTY ek (fun Q hQ => hE Q (hQ _ hcl)))⟩) n1 (by omega)
  by_cases hlt : pl + 1 < or_mn (or_R x_lineClass x_lineLength x_objectClass x_specialiser ar p) p (or_L x_methodGeneric (or_R x_lineClass x_lineLength x_objectClass x_specialiser ar p) g p)
  · by_cases hd7 : K.length = 7
    · exact mx_cl_E (by omega) (fun P hP => mx_enterMethod rfl rfl hW hax (by omega) (by omega) (fun z => by omega) (fun z => by omega) (fun _ _ rk op => hP _ _ _ _ _ _ _ _ _ _ _ _ _ _ _ _ _ _ _ _ _ _ _ _ _ _ _ _ _ _ _ _ _ _ _ _ _ _ _ (fin 6 (by decide) (by decide) (fun post' hp => my_next_f hd (pl := pl) (by omega) hle ePY l1 (fun z => by omega) (fun z => by omega) (fun _ _ => hp) (Or.inr hd7)) rk op)) (fun _ z => by omega))
    · have hx := or_mn_lt hlt
      obtain ⟨ch, ⟨hc1, hc2⟩, hk⟩ := my_next_e (y_classes := nI nc) (y_supers := nI ns) (y_objects := nI no) (y_specials := nI nd) (y_held := nI (cm_kv cm_al ((m, pl, pc, ar, its) :: K))) (y_fault := 0) (y_steps := nI (s + 1)) (y_shownSteps := y_shownSteps) (y_result := -9223372036854775808) (y_line := x_lineClass) (y_lineLength := x_lineLength) (y_has := y_has) (y_sealed := x_isSealed) (y_initial := y_initial) (y_drafted := x_superDraft) (y_draftHas := y_draftHas) (y_draftInitial := y_draftInitial) (y_lists := y_lists) (y_listLength := y_listLength) (y_gone := y_gone) (y_classOfObject := x_objectClass) (y_slots := y_slots) (y_parameters := x_parameterCount) (y_generic := x_methodGeneric) (y_single := y_single) (y_special := y_special) (y_kind := x_tokenKind) (y_tokens := x_tokenCount) (y_with := x_tokenValue) (y_methodAt := y_methodAt) (y_pc := upd y_pc K.length (nI (pc + 1))) (y_chosen := y_chosen) (y_many := y_many) (y_reached := y_reached) (y_opsAt := y_opsAt) (y_broken := y_broken) (y_arguments := y_arguments) (y_operands := y_operands) (y_operator := y_operator) (y_got := y_got) (d := K.length) (pl := pl) (mnN := or_mn (or_R x_lineClass x_lineLength x_objectClass x_specialiser ar p) p (or_L x_methodGeneric (or_R x_lineClass x_lineLength x_objectClass x_specialiser ar p) g p)) (oc := cm_ko cm_al ((m, pl, pc, ar, its) :: K)) (x := or_ld (or_R x_lineClass x_lineLength x_objectClass x_specialiser ar p) p (or_sq (or_R x_lineClass x_lineLength x_objectClass x_specialiser ar p) p (or_L x_methodGeneric (or_R x_lineClass x_lineLength x_objectClass x_specialiser ar p) g p) (pl + 1))) (by omega) hlt hle (by omega) hx ePY l1 hbro (fun j hj => ⟨_, or_mn_lt hj, l3 j hj⟩) (l3 (pl + 1) hlt)
      refine mx_cl_E (by omega) (fun P hP => mx_enterMethod rfl rfl hW hax (by omega) (by omega) (fun z => by omega) (fun z => by omega) (fun _ z => by omega) (fun _ hd2 rk op fA hf1 hf2 => hP _ _ _ _ _ _ _ _ _ _ _ _ _ _ _ _ _ _ _ _ _ _ _ _ _ _ _ _ _ _ _ _ _ _ _ _ _ _ _ ?_))
      refine cm_E_push (y_shownSteps := y_shownSteps) (y_has := y_has) (y_initial := y_initial) (y_draftHas := y_draftHas) (y_draftInitial := y_draftInitial) (y_lists := y_lists) (y_listLength := y_listLength) (y_gone := y_gone) (y_slots := y_slots) (y_single := y_single) (y_special := y_special) (y_methodAt := y_methodAt) (y_pc := upd y_pc K.length (nI (pc + 1))) (y_chosen := y_chosen) (y_many := y_many) (y_reached := y_reached) (y_opsAt := y_opsAt) (y_broken := y_broken) (y_arguments := y_arguments) (y_operands := y_operands) (y_operator := y_operator) (y_got := y_got) (K := (m, pl, pc + 1, ar, its) :: K) (pl := pl + 1) (t := 0) (ar := ar) (g := g) (p := p) (ch' := ch) (mn' := upd y_many (K.length + 1) (nI (or_mn (or_R x_lineClass x_lineLength x_objectClass x_specialiser ar p) p (or_L x_methodGeneric (or_R x_lineClass x_lineLength x_objectClass x_specialiser ar p) g p)))) (bk' := upd y_broken (K.length + 1) (y_broken K.length)) (ag' := ca_ag y_arguments (3 * (K.length + 1)) (y_arguments (3 * K.length)) (y_arguments (3 * K.length + 1)) (y_arguments (3 * K.length + 2))) (s := s + 1) (tt := tt + 1 + 1) hC ihW hV hn hd2 b2 b3 b4 b7 b12 hlt rfl (fun q hq => by rw [e2, hf1 q (by omega), hax q hq]) (fun j hj => hf2 j hj) (fun q hq => ?_) (fun j hj => ca_ag_n (Or.inl hj)) pk_us (by show upd y_broken (K.length + 1) (y_broken K.length) (K.length + 1) = _; rw [pk_us]; exact l2) (fun j hj => ?_) (fun j hj => ?_) (fun j hj => hc2 j hj) (by unfold cm_fi; omega) (by unfold cm_fi; omega) (fun post' he => ?_) n1 (by unfold cm_fi; omega)
      · rw [e2, ca_ag_k (by omega), ← eAY q hq]
        have hq3 : q = 0 ∨ q = 1 ∨ q = 2 := by omega
        rcases hq3 with rfl | rfl | rfl
        · rfl
        · rfl
        · rfl
      · rw [e2, hc1 j hj]; exact l3 j hj
      · rw [e2] at hj
        rw [pk_un (by omega), pk_un (by omega)]
        exact ⟨rfl, rfl⟩
      · obtain ⟨n2, hcl⟩ := he
        exact hY post' ⟨n2 + 1, my_cl_work (by omega) (my_wk_next hs hd b1 hpc eMY eTY ek (fun Q hQ => hk Q (hQ _ hcl)))⟩
  · by_cases hz : or_sq (or_R x_lineClass x_lineLength x_objectClass x_specialiser ar p) p (or_L x_methodGeneric (or_R x_lineClass x_lineLength x_objectClass x_specialiser ar p) g p) (or_mn (or_R x_lineClass x_lineLength x_objectClass x_specialiser ar p) p (or_L x_methodGeneric (or_R x_lineClass x_lineLength x_objectClass x_specialiser ar p) g p)) = 0
    · have hb0 : y_broken K.length = 0 := by rw [l2, bs_ct hz]
      refine mx_cl_E (by omega) (fun P hP => mx_enterMethod rfl rfl hW hax (by omega) (by omega) (fun _ z => absurd hz z) (fun _ _ rk op => hP _ _ _ _ _ _ _ _ _ _ _ _ _ _ _ _ _ _ _ _ _ _ _ _ _ _ _ _ _ _ _ _ _ _ _ _ _ _ _ ?_) (fun z => by omega) (fun z => by omega))
      rw [bs_cf (by omega)]
      exact fin 3 (by decide) (by decide) (fun post' hp => my_next_f hd (pl := pl) (by omega) hle ePY l1 (fun _ _ => hp) (fun _ z => absurd hb0 z) (fun z => by omega) (Or.inl (by omega))) rk op
    · have hb1 : ¬ y_broken K.length = 0 := by rw [l2, bs_cf hz]; decide
      exact mx_cl_E (by omega) (fun P hP => mx_enterMethod rfl rfl hW hax (by omega) (by omega) (fun _ _ rk op => hP _ _ _ _ _ _ _ _ _ _ _ _ _ _ _ _ _ _ _ _ _ _ _ _ _ _ _ _ _ _ _ _ _ _ _ _ _ _ _ (fin 2 (by decide) (by decide) (fun post' hp => my_next_f hd (pl := pl) (by omega) hle ePY l1 (fun _ z => absurd z hb1) (fun _ _ => hp) (fun z => by omega) (Or.inl (by omega))) rk op)) (fun _ z => absurd z hz) (fun z => by omega) (fun z => by omega))
theorem cm_W_make {μ no s tt m pl pc c : Nat} {ar : Nat → Int64} {its : List cm_It} {K : List cm_Fr} (hC : cm_C nc no0 ns nd x_lineClass x_lineLength x_methodGeneric x_parameterCount x_specialiser x_tokenKind x_tokenValue x_tokenCount x_isSealed x_classHasSlot x_classSlot x_superDraft y_has y_initial y_draftHas y_draftInitial y_lists y_listLength y_gone y_single y_special y_shownSteps) (ihT : cm_PT D kk nc no0 ns nd x_lineClass x_lineLength x_methodGeneric x_parameterCount x_specialiser x_tokenKind x_tokenValue x_tokenCount x_isSealed x_classHasSlot x_classSlot x_superDraft y_has y_initial y_draftHas y_draftInitial y_lists y_listLength y_gone y_single y_special y_shownSteps μ) (h : cm_J nc (1) ((m, pl, pc, ar, its)) (K) (s) (no) x_lineClass x_lineLength x_methodGeneric x_parameterCount x_specialiser x_tokenKind x_tokenValue x_tokenCount x_objectClass x_objectHasSlot x_objectSlot x_frameMethod x_framePlace x_frameToken x_frameOperators x_frameArgument x_operatorKind x_operatorValue x_operatorLeft x_workedOut y_slots y_methodAt y_reached y_pc y_opsAt y_arguments y_operator y_got y_operands y_many y_broken y_chosen) (hn : no0 ≤ no) (hs : s < 120) (hm : m < 24) (hpc : pc < 16) (hc : c < nc) (ek : x_tokenKind (16 * m + pc) = nI 12) (ea : x_tokenValue (16 * m + pc) = nI c) (hmu : cm_fi (cm_A x_parameterCount x_tokenKind x_tokenValue) s ((m, pl, pc, ar, its) :: K) 0 ≤ μ + 1) (htt : tt + cm_fi (cm_A x_parameterCount x_tokenKind x_tokenValue) s ((m, pl, pc, ar, its) :: K) 0 ≤ 4000)
    (hY : ∀ post' : Int32 → SY → Prop, (∃ n, wY_call_62 post' n (nI nc) (nI ns) (nI no) (nI nd) (nI (K.length + 1)) (nI (cm_ko cm_al ((m, pl, pc, ar, its) :: K))) (nI (cm_kv cm_al ((m, pl, pc, ar, its) :: K))) 0 (nI s) y_shownSteps (-9223372036854775808) x_lineClass x_lineLength y_has x_isSealed y_initial x_superDraft y_draftHas y_draftInitial y_lists y_listLength y_gone x_objectClass y_slots x_parameterCount x_methodGeneric y_single y_special x_tokenKind x_tokenCount x_tokenValue y_methodAt y_pc y_chosen y_many y_reached y_opsAt y_broken y_arguments y_operands y_operator y_got) → D post') : ∀ n, cm_fi (cm_A x_parameterCount x_tokenKind x_tokenValue) s ((m, pl, pc, ar, its) :: K) 0 < n + 1 → wX_call_23 (fun r u' => D (fun r' v' => r' = r ∧ i_Rel kk u' v')) (n + 1) (nI tt) (nI nc) (nI ns) (nI no) (nI nd) (-2) (nI s) (-9223372036854775808) x_enterGeneric x_enterPlace (nI (K.length + 1)) (nI (cm_ko (cm_vx x_tokenKind) ((m, pl, pc, ar, its) :: K))) (nI (cm_kv (cm_vx x_tokenKind) ((m, pl, pc, ar, its) :: K))) x_lineClass x_lineLength x_isSealed x_classHasSlot x_classSlot x_superDraft x_objectClass x_objectHasSlot x_objectSlot x_parameterCount x_methodGeneric x_specialiser x_tokenKind x_tokenValue x_tokenCount x_argument x_rank x_orderPlace x_frameMethod x_framePlace x_frameToken x_frameOperators x_frameArgument x_operatorKind x_operatorValue x_operatorLeft x_workedOut := by
  obtain ⟨k1, k2, k3, k4⟩ := cm_J_cnt h
  have hd := h.2.2.2.1
  have hX := h.2.2.2.2.2.2.1.1
  have hYl := h.2.2.2.2.2.2.2.1.1
  have ho := h.1
  have h16 := hC.1.2.1
  obtain ⟨l, hl, el, _⟩ := hC.1.2.2 c hc
  have e1 : cm_kl (cm_A x_parameterCount x_tokenKind x_tokenValue) ((m, pl, pc + 1, ar, its) :: K) = cm_kl (cm_A x_parameterCount x_tokenKind x_tokenValue) ((m, pl, pc, ar, its) :: K) := rfl
  have e2 : ((m, pl, pc + 1, ar, its) :: K).length = ((m, pl, pc, ar, its) :: K).length := rfl
  unfold cm_fi at hmu htt
  intro n hn'
  unfold cm_fi at hn'
  have fin : ∀ F : Int32, ¬ F = 0 → 0 ≤ F → (∀ post' : SY → Prop, post' (nI nc, nI ns, nI no, nI nd, nI (K.length + 1), nI (cm_ko cm_al ((m, pl, pc, ar, its) :: K)), nI (cm_kv cm_al ((m, pl, pc, ar, its) :: K)), F, nI (s + 1), y_shownSteps, -9223372036854775808, x_lineClass, x_lineLength, y_has, x_isSealed, y_initial, x_superDraft, y_draftHas, y_draftInitial, y_lists, y_listLength, y_gone, x_objectClass, y_slots, x_parameterCount, x_methodGeneric, y_single, y_special, x_tokenKind, x_tokenCount, x_tokenValue, y_methodAt, upd y_pc K.length (nI (pc + 1)), y_chosen, y_many, y_reached, y_opsAt, y_broken, y_arguments, y_operands, y_operator, y_got) → wpY_work post' (nI nc, nI ns, nI no, nI nd, nI (K.length + 1), nI (cm_ko cm_al ((m, pl, pc, ar, its) :: K)), nI (cm_kv cm_al ((m, pl, pc, ar, its) :: K)), 0, nI s, y_shownSteps, -9223372036854775808, x_lineClass, x_lineLength, y_has, x_isSealed, y_initial, x_superDraft, y_draftHas, y_draftInitial, y_lists, y_listLength, y_gone, x_objectClass, y_slots, x_parameterCount, x_methodGeneric, y_single, y_special, x_tokenKind, x_tokenCount, x_tokenValue, y_methodAt, y_pc, y_chosen, y_many, y_reached, y_opsAt, y_broken, y_arguments, y_operands, y_operator, y_got)) → wX_call_23 (fun r u' => D (fun r' v' => r' = r ∧ i_Rel kk u' v')) n (nI (tt + 1)) (nI nc) (nI ns) (nI no) (nI nd) F (nI (s + 1)) (-9223372036854775808) x_enterGeneric x_enterPlace (nI (K.length + 1)) (nI (cm_ko (cm_vx x_tokenKind) ((m, pl, pc, ar, its) :: K))) (nI (cm_kv (cm_vx x_tokenKind) ((m, pl, pc, ar, its) :: K))) x_lineClass x_lineLength x_isSealed x_classHasSlot x_classSlot x_superDraft x_objectClass x_objectHasSlot x_objectSlot x_parameterCount x_methodGeneric x_specialiser x_tokenKind x_tokenValue x_tokenCount x_argument x_rank x_orderPlace x_frameMethod x_framePlace (upd x_frameToken K.length (nI (pc + 1))) x_frameOperators x_frameArgument x_operatorKind x_operatorValue x_operatorLeft x_workedOut := by
    intro F hF0 hF hE
    exact cm_halt (y_depth := nI (K.length + 1)) (y_ops := nI (cm_ko cm_al ((m, pl, pc, ar, its) :: K))) (y_held := nI (cm_kv cm_al ((m, pl, pc, ar, its) :: K))) (y_shownSteps := y_shownSteps) (y_has := y_has) (y_initial := y_initial) (y_draftHas := y_draftHas) (y_draftInitial := y_draftInitial) (y_lists := y_lists) (y_listLength := y_listLength) (y_gone := y_gone) (y_slots := y_slots) (y_single := y_single) (y_special := y_special) (y_methodAt := y_methodAt) (y_pc := upd y_pc K.length (nI (pc + 1))) (y_chosen := y_chosen) (y_many := y_many) (y_reached := y_reached) (y_opsAt := y_opsAt) (y_broken := y_broken) (y_arguments := y_arguments) (y_operands := y_operands) (y_operator := y_operator) (y_got := y_got) hF0 hF hC hn ho (fun post' he => by
      obtain ⟨n2, hcl⟩ := he
      exact hY post' ⟨n2 + 1, my_cl_work (by omega) (hE (cm_Q post' n2) hcl)⟩) n (by omega)
  by_cases hc1 : c = 1
  · subst hc1
    exact mx_cl_W (by omega) (fun P hP => mx_wk_make hs hd hm hpc hX.1 hX.2.2.1 hC.1 hc hl el ho.1 (by omega) ek ea (fun _ => hP _ _ _ _ _ _ _ _ _ _ _ _ _ _ _ _ _ _ _ _ _ _ _ _ _ _ _ _ _ _ _ _ _ _ _ _ _ _ _ (fin 5 (by decide) (by decide) (fun post' hp => my_wk_mk1 hs hd hm hpc hYl.1 hYl.2.2.1 ek ea hp))) (fun z => absurd rfl z) (fun z => absurd rfl z))
  · by_cases hno : no = 20
    · subst hno
      exact mx_cl_W (by omega) (fun P hP => mx_wk_make hs hd hm hpc hX.1 hX.2.2.1 hC.1 hc hl el ho.1 (by omega) ek ea (fun z => absurd z hc1) (fun _ _ => hP _ _ _ _ _ _ _ _ _ _ _ _ _ _ _ _ _ _ _ _ _ _ _ _ _ _ _ _ _ _ _ _ _ _ _ _ _ _ _ (fin 8 (by decide) (by decide) (fun post' hp => my_wk_mk8 hs hd hm hpc hYl.1 hYl.2.2.1 (c := c) (by omega) hc1 ek ea hp))) (fun _ z => by omega))
    · have hno20 := ho.1
      obtain ⟨SL', hPY, hk⟩ := my_make_e (y_supers := nI ns) (y_specials := nI nd) (y_depth := nI (K.length + 1)) (y_ops := nI (cm_ko cm_al ((m, pl, pc, ar, its) :: K))) (y_held := nI (cm_kv cm_al ((m, pl, pc, ar, its) :: K))) (y_fault := 0) (y_steps := nI (s + 1)) (y_shownSteps := y_shownSteps) (y_result := -9223372036854775808) (y_line := x_lineClass) (y_lineLength := x_lineLength) (y_has := y_has) (y_sealed := x_isSealed) (y_initial := y_initial) (y_drafted := x_superDraft) (y_draftHas := y_draftHas) (y_draftInitial := y_draftInitial) (y_lists := y_lists) (y_listLength := y_listLength) (y_gone := y_gone) (y_classOfObject := x_objectClass) (y_slots := y_slots) (y_parameters := x_parameterCount) (y_generic := x_methodGeneric) (y_single := y_single) (y_special := y_special) (y_kind := x_tokenKind) (y_tokens := x_tokenCount) (y_with := x_tokenValue) (y_methodAt := y_methodAt) (y_pc := upd y_pc K.length (nI (pc + 1))) (y_chosen := y_chosen) (y_many := y_many) (y_reached := y_reached) (y_opsAt := y_opsAt) (y_broken := y_broken) (y_arguments := y_arguments) (y_operands := y_operands) (y_operator := y_operator) (y_got := y_got) (no := no) hC.1 hc hc1 hl el (by omega)
      refine mx_cl_W (by omega) (fun P hP => mx_wk_make hs hd hm hpc hX.1 hX.2.2.1 hC.1 hc hl el ho.1 (by omega) ek ea (fun z => absurd z hc1) (fun _ z => absurd z hno) (fun _ hlt OH' OS' hPX => hP _ _ _ _ _ _ _ _ _ _ _ _ _ _ _ _ _ _ _ _ _ _ _ _ _ _ _ _ _ _ _ _ _ _ _ _ _ _ _ ?_))
      have hJ := cm_mv_pc hC.2.2.2.2.2.1 h hs (by rw [cm_kind ek]; rfl) (wo' := vp_updL x_workedOut (cm_kv (cm_vx x_tokenKind) ((m, pl, pc, ar, its) :: K)) (lN (4294967296 + no))) (fun j hj => pk_uLn (by omega))
      have hJ2 := cm_mv_obj (no' := no + 1) hJ (by omega) (OC' := upd x_objectClass no (nI c)) (OH' := OH') (OS' := OS') (SL' := SL') (fun k hk => pk_un (by omega)) (mk_obj hC.1 hC.2.2.1 ho hc hl el hlt hPX hPY)
      exact ihT (no + 1) (s + 1) (tt + 1) (lN (4294967296 + no)) (m, pl, pc + 1, ar, its) K _ _ _ _ _ _ _ _ _ _ _ _ x_argument x_rank x_orderPlace x_enterGeneric x_enterPlace _ _ _ _ _ _ _ _ _ _ _ _ hJ2 (by omega) (Or.inr ⟨no, by omega, rfl⟩) pk_uLs (by unfold cm_fi; omega) (by unfold cm_fi; omega) (fun post' he => by
        obtain ⟨n2, n5, hdl⟩ := he
        exact hY post' ⟨n2 + 1, my_cl_work (by omega) (my_wk_mk hs hd hm hpc hYl.1 hYl.2.2.1 (SL' := SL') (c := c) (by omega) hc1 hlt ek ea (fun P hp => hk P hp) ⟨n5, hdl⟩)⟩) n (by unfold cm_fi; omega)
theorem cm_Wstep {μ : Nat} (hC : cm_C nc no0 ns nd x_lineClass x_lineLength x_methodGeneric x_parameterCount x_specialiser x_tokenKind x_tokenValue x_tokenCount x_isSealed x_classHasSlot x_classSlot x_superDraft y_has y_initial y_draftHas y_draftInitial y_lists y_listLength y_gone y_single y_special y_shownSteps) (ihW : cm_PW D kk nc no0 ns nd x_lineClass x_lineLength x_methodGeneric x_parameterCount x_specialiser x_tokenKind x_tokenValue x_tokenCount x_isSealed x_classHasSlot x_classSlot x_superDraft y_has y_initial y_draftHas y_draftInitial y_lists y_listLength y_gone y_single y_special y_shownSteps μ) (ihT : cm_PT D kk nc no0 ns nd x_lineClass x_lineLength x_methodGeneric x_parameterCount x_specialiser x_tokenKind x_tokenValue x_tokenCount x_isSealed x_classHasSlot x_classSlot x_superDraft y_has y_initial y_draftHas y_draftInitial y_lists y_listLength y_gone y_single y_special y_shownSteps μ) : cm_PW D kk nc no0 ns nd x_lineClass x_lineLength x_methodGeneric x_parameterCount x_specialiser x_tokenKind x_tokenValue x_tokenCount x_isSealed x_classHasSlot x_classSlot x_superDraft y_has y_initial y_draftHas y_draftInitial y_lists y_listLength y_gone y_single y_special y_shownSteps (μ + 1) := by
  intro no s tt f K
  intros
  rename_i h hn hmu htt hY n hn'
  obtain ⟨m, pl, pc, ar, its⟩ := f
  obtain ⟨n1, rfl⟩ : ∃ n1, n = n1 + 1 := ⟨n - 1, by omega⟩
  have e3 : ((m, pl, pc, ar, its) :: K).length = K.length + 1 := rfl
  by_cases hs : s = 120
  · subst hs
    unfold cm_fi at htt hn'
    exact cm_W_long hC h hn (by omega) hY n1 (by omega)
  · have hs2 : s < 120 := by have := h.2.1; omega
    obtain ⟨g, p, t, a1, a2, a3, a4, a5, a6, a7, a8, a9, a10, a11, a12⟩ := cm_tok (x := 1) hC.2.2.2.2.2.1 h
    have htk := a10 pc a9
    obtain ⟨q, hq, eq, hq1, hq3, hq45, hq11⟩ := htk
    have hpc : pc < 16 := by omega
    by_cases q0 : q = 0
    · subst q0
      exact cm_W_num hC ihT h hn hs2 a1 hpc eq hmu htt hY n1 hn'
    · by_cases q1 : q = 1
      · subst q1
        have hbd := (hC.2.2.2.2.2.2.1 m g p t a1 a2 a4 a5 a6 a7 a8).1 pc a9 eq
        obtain ⟨a, ha, ea⟩ := hbd
        exact cm_W_arg hC ihT h hn hs2 a1 hpc a2 a4 a6 a7 ha (a12 a ha) eq ea hmu htt hY n1 hn'
      · by_cases q2 : q = 2
        · subst q2
          exact cm_W_next hC ihW h hn hs2 hpc eq hmu htt hY n1 hn'
        · by_cases q12 : q = 12
          · subst q12
            obtain ⟨c, hc, ec⟩ := hq11 (Or.inr rfl)
            exact cm_W_make hC ihT h hn hs2 a1 hpc hc eq ec hmu htt hY n1 hn'
          · refine cm_W_op (t := t) hC ihW h hn hs2 a1 hpc eq (by omega) (by omega) ?_ (a10 pc a9) hmu htt hY n1 hn'
            rw [cm_kind eq]
            have hs9 : q = 3 ∨ q = 4 ∨ q = 5 ∨ q = 6 ∨ q = 7 ∨ q = 8 ∨ q = 9 ∨ q = 10 ∨ q = 11 := by omega
            rcases hs9 with rfl | rfl | rfl | rfl | rfl | rfl | rfl | rfl | rfl
            · obtain ⟨a, ha, ea⟩ := hq3 rfl
              obtain ⟨pp, hpp1, hpp3, epp⟩ := hC.2.2.2.1 a ha
              rw [ea]
              show 1 ≤ (x_parameterCount (nI a).toNatClampNeg).toNatClampNeg
              rw [bs_clk (by omega), epp, bs_clk (by omega)]
              exact hpp1
            · show 1 ≤ 1; omega
            · show 1 ≤ 2; omega
            · show 1 ≤ 2; omega
            · show 1 ≤ 2; omega
            · show 1 ≤ 2; omega
            · show 1 ≤ 3; omega
            · show 1 ≤ 2; omega
            · show 1 ≤ 1; omega
end
