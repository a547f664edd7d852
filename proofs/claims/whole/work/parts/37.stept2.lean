/-! the simulation: values taken, second half -/
theorem ob_nn {no : Nat} {v : Int64} (hno : no ≤ 20) (h : rl_val no v) : ¬ v = -9223372036854775808 := by
  rintro rfl
  rcases h with h | ⟨k, hk, e⟩
  · have h1 := congrArg Int64.toInt h
    rw [Int32.toInt_toInt64] at h1
    have h2 := Int32.le_toInt (-9223372036854775808 : Int64).toInt32
    have h3 : (-9223372036854775808 : Int64).toInt = -9223372036854775808 := by decide
    omega
  · have h1 := congrArg Int64.toInt e
    rw [pk_lT (by omega)] at h1
    have h3 : (-9223372036854775808 : Int64).toInt = -9223372036854775808 := by decide
    omega
/-- the slot, as X and as Y know it -/
theorem ob_sl {nc no k n : Nat} {OC OH : Nat → Int32} {OS SL : Nat → Int64} (h : rl_obj nc no OC OH OS SL) (hk : k < no) (hn : n < 4) : (OH (4 * k + n) = 0 ∧ SL (4 * k + n) = -9223372036854775808) ∨ (¬ OH (4 * k + n) = 0 ∧ ¬ SL (4 * k + n) = -9223372036854775808 ∧ SL (4 * k + n) = OS (4 * k + n) ∧ rl_val no (OS (4 * k + n))) := by
  rcases h.2.2 (4 * k + n) (by omega) with h1 | ⟨h1, h2, h3⟩
  · exact Or.inl h1
  · refine Or.inr ⟨by rw [h1]; decide, ?_, h2, h3⟩
    rw [h2]
    exact ob_nn h.1 h3
theorem ob_set {nc no k n : Nat} {OC OH : Nat → Int32} {OS SL : Nat → Int64} {v : Int64} (h : rl_obj nc no OC OH OS SL) (hk : k < no) (hn : n < 4) (hh : ¬ OH (4 * k + n) = 0) (hv : rl_val no v) : rl_obj nc no OC OH (vp_updL OS (4 * k + n) v) (vp_updL SL (4 * k + n) v) := by
  refine ⟨h.1, h.2.1, fun j hj => ?_⟩
  by_cases e : j = 4 * k + n
  · subst e
    rw [pk_uLs, pk_uLs]
    rcases h.2.2 (4 * k + n) hj with h1 | ⟨h1, _, _⟩
    · exact absurd h1.1 hh
    · exact Or.inr ⟨h1, rfl, hv⟩
  · rw [pk_uLn e, pk_uLn e]
    exact h.2.2 j hj
section
variable {x_classCount : Int32} {x_superCount : Int32} {x_objectCount : Int32} {x_draftSpecialCount : Int32} {x_state : Int32} {x_stepCount : Int32} {x_latestValue : Int64} {x_enterGeneric : Int32} {x_enterPlace : Int32} {x_frameCount : Int32} {x_operatorCount : Int32} {x_valueCount : Int32} {x_lineClass : Nat → Int32} {x_lineLength : Nat → Int32} {x_isSealed : Nat → Int32} {x_classHasSlot : Nat → Int32} {x_classSlot : Nat → Int32} {x_superDraft : Nat → Int32} {x_objectClass : Nat → Int32} {x_objectHasSlot : Nat → Int32} {x_objectSlot : Nat → Int64} {x_parameterCount : Nat → Int32} {x_methodGeneric : Nat → Int32} {x_specialiser : Nat → Int64} {x_tokenKind : Nat → Int32} {x_tokenValue : Nat → Int32} {x_tokenCount : Nat → Int32} {x_argument : Nat → Int64} {x_rank : Nat → Int32} {x_orderPlace : Nat → Int32} {x_frameMethod : Nat → Int32} {x_framePlace : Nat → Int32} {x_frameToken : Nat → Int32} {x_frameOperators : Nat → Int32} {x_frameArgument : Nat → Int64} {x_operatorKind : Nat → Int32} {x_operatorValue : Nat → Int32} {x_operatorLeft : Nat → Int32} {x_workedOut : Nat → Int64} {y_classes : Int32} {y_supers : Int32} {y_objects : Int32} {y_specials : Int32} {y_depth : Int32} {y_ops : Int32} {y_held : Int32} {y_fault : Int32} {y_steps : Int32} {y_shownSteps : Int32} {y_result : Int64} {y_line : Nat → Int32} {y_lineLength : Nat → Int32} {y_has : Nat → Int32} {y_sealed : Nat → Int32} {y_initial : Nat → Int32} {y_drafted : Nat → Int32} {y_draftHas : Nat → Int32} {y_draftInitial : Nat → Int32} {y_lists : Nat → Int32} {y_listLength : Nat → Int32} {y_gone : Nat → Int32} {y_classOfObject : Nat → Int32} {y_slots : Nat → Int64} {y_parameters : Nat → Int32} {y_generic : Nat → Int32} {y_single : Nat → Int32} {y_special : Nat → Int64} {y_kind : Nat → Int32} {y_tokens : Nat → Int32} {y_with : Nat → Int32} {y_methodAt : Nat → Int32} {y_pc : Nat → Int32} {y_chosen : Nat → Int32} {y_many : Nat → Int32} {y_reached : Nat → Int32} {y_opsAt : Nat → Int32} {y_broken : Nat → Int32} {y_arguments : Nat → Int64} {y_operands : Nat → Int64} {y_operator : Nat → Int32} {y_got : Nat → Int32} {D : (Int32 → SY → Prop) → Prop} {kk nc no0 ns nd : Nat}
theorem cm_T_seq1 {μ no s tt m pl pc c : Nat} {z : Nat → Int64} {v : Int64} {ar : Nat → Int64} {r : List cm_It} {K : List cm_Fr} (hC : cm_C nc no0 ns nd x_lineClass x_lineLength x_methodGeneric x_parameterCount x_specialiser x_tokenKind x_tokenValue x_tokenCount x_isSealed x_classHasSlot x_classSlot x_superDraft y_has y_initial y_draftHas y_draftInitial y_lists y_listLength y_gone y_single y_special y_shownSteps) (ihT : cm_PT D kk nc no0 ns nd x_lineClass x_lineLength x_methodGeneric x_parameterCount x_specialiser x_tokenKind x_tokenValue x_tokenCount x_isSealed x_classHasSlot x_classSlot x_superDraft y_has y_initial y_draftHas y_draftInitial y_lists y_listLength y_gone y_single y_special y_shownSteps μ) (h : cm_J nc (0) ((m, pl, pc, ar, (c, 1, 1, z) :: r)) (K) (s) (no) x_lineClass x_lineLength x_methodGeneric x_parameterCount x_specialiser x_tokenKind x_tokenValue x_tokenCount x_objectClass x_objectHasSlot x_objectSlot x_frameMethod x_framePlace x_frameToken x_frameOperators x_frameArgument x_operatorKind x_operatorValue x_operatorLeft x_workedOut y_slots y_methodAt y_reached y_pc y_opsAt y_arguments y_operator y_got y_operands y_many y_broken y_chosen) (hn : no0 ≤ no) (hv : rl_val no v) (hwo : x_workedOut (cm_kv (cm_vx x_tokenKind) ((m, pl, pc, ar, (c, 1, 1, z) :: r) :: K)) = v) (hmu : cm_fi (cm_A x_parameterCount x_tokenKind x_tokenValue) s ((m, pl, pc, ar, (c, 1, 1, z) :: r) :: K) 1 ≤ μ + 1) (htt : tt + cm_fi (cm_A x_parameterCount x_tokenKind x_tokenValue) s ((m, pl, pc, ar, (c, 1, 1, z) :: r) :: K) 1 ≤ 4000) (ek : x_tokenKind c = nI 10)
    (hY : ∀ post' : Int32 → SY → Prop, (∃ n9 n5, wY_deliver_5 (cm_Q post' n9) n5 v 1 (nI nc) (nI ns) (nI no) (nI nd) (nI (K.length + 1)) (nI (cm_ko cm_al ((m, pl, pc, ar, (c, 1, 1, z) :: r) :: K))) (nI (cm_kv cm_al ((m, pl, pc, ar, (c, 1, 1, z) :: r) :: K))) 0 (nI s) y_shownSteps (-9223372036854775808) x_lineClass x_lineLength y_has x_isSealed y_initial x_superDraft y_draftHas y_draftInitial y_lists y_listLength y_gone x_objectClass y_slots x_parameterCount x_methodGeneric y_single y_special x_tokenKind x_tokenCount x_tokenValue y_methodAt y_pc y_chosen y_many y_reached y_opsAt y_broken y_arguments y_operands y_operator y_got) → D post') : ∀ n', cm_fi (cm_A x_parameterCount x_tokenKind x_tokenValue) s ((m, pl, pc, ar, (c, 1, 1, z) :: r) :: K) 1 < n' → wX_call_23 (fun r u' => D (fun r' v' => r' = r ∧ i_Rel kk u' v')) n' (nI tt) (nI nc) (nI ns) (nI no) (nI nd) (-3) (nI s) (-9223372036854775808) x_enterGeneric x_enterPlace (nI (K.length + 1)) (nI (cm_ko (cm_vx x_tokenKind) ((m, pl, pc, ar, (c, 1, 1, z) :: r) :: K))) (nI (cm_kv (cm_vx x_tokenKind) ((m, pl, pc, ar, (c, 1, 1, z) :: r) :: K) + 1)) x_lineClass x_lineLength x_isSealed x_classHasSlot x_classSlot x_superDraft x_objectClass x_objectHasSlot x_objectSlot x_parameterCount x_methodGeneric x_specialiser x_tokenKind x_tokenValue x_tokenCount x_argument x_rank x_orderPlace x_frameMethod x_framePlace x_frameToken x_frameOperators x_frameArgument x_operatorKind x_operatorValue x_operatorLeft x_workedOut := by
  obtain ⟨gg, p, t, j, a1, a2, a3, a4, a5, a6, a7, a8, a9, a10, a11, a12, a13, a14, a15, a16, a17, a18⟩ := cm_top hC.2.2.2.2.2.1 h
  obtain ⟨k1, k2, k3, k4⟩ := cm_J_cnt h
  have hd := h.2.2.2.1
  have ho := h.1
  have ho20 := ho.1
  obtain ⟨y1, y2, y3, y4, y5, y7, y8, y9⟩ := cm_itemY h
  have hcj : c % 16 = j := by omega
  have hc400 : c < 400 := by omega
  rw [hcj] at y4
  have htk := a12 j a10
  rw [← a11] at htk
  have e3 : ((m, pl, pc, ar, (c, 1, 1, z) :: r) :: K).length = K.length + 1 := rfl
  have e4 : cm_kl (cm_A x_parameterCount x_tokenKind x_tokenValue) ((m, pl, pc, ar, (c, 1, 1, z) :: r) :: K) = cm_kl (cm_A x_parameterCount x_tokenKind x_tokenValue) K + (cm_lf (cm_A x_parameterCount x_tokenKind x_tokenValue) r + ((cm_A x_parameterCount x_tokenKind x_tokenValue) c - 1)) := rfl
  have kn1 : cm_ni (cm_vx x_tokenKind) r ≤ cm_ni cm_al r := cm_ni_le _ _
  have kn2 : cm_nv (cm_vx x_tokenKind) r ≤ cm_nv cm_al r := cm_nv_le _ _
  have kk1 : cm_ko (cm_vx x_tokenKind) K ≤ cm_ko cm_al K := cm_ko_le _ _
  have kk2 : cm_kv (cm_vx x_tokenKind) K ≤ cm_kv cm_al K := cm_kv_le _ _
  have eTX : x_frameToken K.length = nI pc := h.2.2.2.2.2.2.1.1.2.2.1
  unfold cm_fi at hmu htt
  intro n' hn'
  unfold cm_fi at hn'
  have hA : (cm_A x_parameterCount x_tokenKind x_tokenValue) c = 2 := by rw [cm_kind ek]; rfl
  have hv1 : ¬ (cm_vx x_tokenKind) (c, 1, 1, z) = true := cm_vx_f ⟨ek, rfl⟩
  have w8 : cm_ko (cm_vx x_tokenKind) ((m, pl, pc, ar, (c, 1, 1, z) :: r) :: K) = (cm_ko (cm_vx x_tokenKind) K + cm_ni (cm_vx x_tokenKind) r) := by
    show cm_ko (cm_vx x_tokenKind) K + cm_ni (cm_vx x_tokenKind) ((c, 1, 1, z) :: r) = _
    rw [cm_ni_f hv1]
  have w9 : cm_kv (cm_vx x_tokenKind) ((m, pl, pc, ar, (c, 1, 1, z) :: r) :: K) = (cm_kv (cm_vx x_tokenKind) K + cm_nv (cm_vx x_tokenKind) r) := by
    show cm_kv (cm_vx x_tokenKind) K + cm_nv (cm_vx x_tokenKind) ((c, 1, 1, z) :: r) = _
    rw [cm_nv_f hv1]
  rw [hA] at a17
  have p1 : cm_kl (cm_A x_parameterCount x_tokenKind x_tokenValue) ((m, pl, pc, ar, r) :: K) = cm_kl (cm_A x_parameterCount x_tokenKind x_tokenValue) K + cm_lf (cm_A x_parameterCount x_tokenKind x_tokenValue) r := rfl
  have p2 : ((m, pl, pc, ar, r) :: K).length = K.length + 1 := rfl
  have hJ := cm_mv_pop (x := 0) (pc' := pc) (fT' := x_frameToken) (pC' := y_pc) (oL' := x_operatorLeft) (wo' := x_workedOut) (go' := upd y_got (cm_ko cm_al K + cm_ni cm_al r) (nI 2)) (od' := vp_updL (vp_updL y_operands ((cm_kv cm_al K + cm_nv cm_al r) + 1) v) (cm_kv cm_al K + cm_nv cm_al r) v) h (by omega) a8 a5 a9 a17 eTX y3 (fun _ _ => rfl) (fun _ _ => rfl) (fun j hj => by rw [pk_uLn (by omega), pk_uLn (by omega)]) (fun _ _ => rfl) (fun _ _ => rfl) (fun j hj => pk_un (by omega))
  rw [w8, w9]
  rw [w9] at hwo
  refine ihT no s tt v (m, pl, pc, ar, r) K _ _ _ _ _ _ _ _ _ _ _ _ x_argument x_rank x_orderPlace x_enterGeneric x_enterPlace _ _ _ _ _ _ _ _ _ _ _ _ hJ hn hv hwo (by unfold cm_fi; omega) (by unfold cm_fi; omega) (fun post' he => ?_) n' (by unfold cm_fi; omega)
  obtain ⟨n1, n5, hdl⟩ := he
  cases n5 with
  | zero => exact hdl.elim
  | succ n6 =>
    refine hY post' ⟨n1, n6 + 2, ?_⟩
    rw [y8]
    refine my_dl_item (n := n6) hd (by omega) (by omega) (by omega) (by omega) y1 y2 y4 y5 (fun P h0 h1 => ?_)
    rw [← a11, y9]
    refine my_cp_two (hh := (cm_kv cm_al K + cm_nv cm_al r)) hc400 (by omega) (g1 := 2) (by omega) pk_us hC.2.2.2.1 htk hA (q := 10) (by omega) (by omega) ek (fun Q hQ => ?_)
    rw [pk_uLs]
    refine my_two (no := no) (n := 0) ho20 (by omega) (by omega) (fun zz => by omega) ?_ (fun _ => hQ _ (h1 _ _ _ _ _ _ 0 _ _ _ _ _ _ _ _ _ _ _ _ _ _ _ _ _ _ _ _ _ _ _ _ _ _ _ _ _ _ _ _ _ _ _ (cm_kv cm_al K + cm_nv cm_al r) (by omega) ?_)) (fun zz => by omega) (fun zz => by omega) (fun zz zz2 => by omega) (fun zz zz2 => by omega) rfl
    · rw [pk_uLn (by omega)]
      have := y7 0 (by omega)
      rw [Nat.add_zero] at this
      rw [this]
      exact a16 0 (by omega)
    · rw [pk_uLs]
      exact hdl
theorem cm_T_if0 {μ no s tt m pl pc c : Nat} {z : Nat → Int64} {v : Int64} {ar : Nat → Int64} {r : List cm_It} {K : List cm_Fr} (hC : cm_C nc no0 ns nd x_lineClass x_lineLength x_methodGeneric x_parameterCount x_specialiser x_tokenKind x_tokenValue x_tokenCount x_isSealed x_classHasSlot x_classSlot x_superDraft y_has y_initial y_draftHas y_draftInitial y_lists y_listLength y_gone y_single y_special y_shownSteps) (ihW : cm_PW D kk nc no0 ns nd x_lineClass x_lineLength x_methodGeneric x_parameterCount x_specialiser x_tokenKind x_tokenValue x_tokenCount x_isSealed x_classHasSlot x_classSlot x_superDraft y_has y_initial y_draftHas y_draftInitial y_lists y_listLength y_gone y_single y_special y_shownSteps μ) (h : cm_J nc (0) ((m, pl, pc, ar, (c, 0, 0, z) :: r)) (K) (s) (no) x_lineClass x_lineLength x_methodGeneric x_parameterCount x_specialiser x_tokenKind x_tokenValue x_tokenCount x_objectClass x_objectHasSlot x_objectSlot x_frameMethod x_framePlace x_frameToken x_frameOperators x_frameArgument x_operatorKind x_operatorValue x_operatorLeft x_workedOut y_slots y_methodAt y_reached y_pc y_opsAt y_arguments y_operator y_got y_operands y_many y_broken y_chosen) (hn : no0 ≤ no) (hv : rl_val no v) (hwo : x_workedOut (cm_kv (cm_vx x_tokenKind) ((m, pl, pc, ar, (c, 0, 0, z) :: r) :: K)) = v) (hmu : cm_fi (cm_A x_parameterCount x_tokenKind x_tokenValue) s ((m, pl, pc, ar, (c, 0, 0, z) :: r) :: K) 1 ≤ μ + 1) (htt : tt + cm_fi (cm_A x_parameterCount x_tokenKind x_tokenValue) s ((m, pl, pc, ar, (c, 0, 0, z) :: r) :: K) 1 ≤ 4000) (ek : x_tokenKind c = nI 9)
    (hY : ∀ post' : Int32 → SY → Prop, (∃ n9 n5, wY_deliver_5 (cm_Q post' n9) n5 v 1 (nI nc) (nI ns) (nI no) (nI nd) (nI (K.length + 1)) (nI (cm_ko cm_al ((m, pl, pc, ar, (c, 0, 0, z) :: r) :: K))) (nI (cm_kv cm_al ((m, pl, pc, ar, (c, 0, 0, z) :: r) :: K))) 0 (nI s) y_shownSteps (-9223372036854775808) x_lineClass x_lineLength y_has x_isSealed y_initial x_superDraft y_draftHas y_draftInitial y_lists y_listLength y_gone x_objectClass y_slots x_parameterCount x_methodGeneric y_single y_special x_tokenKind x_tokenCount x_tokenValue y_methodAt y_pc y_chosen y_many y_reached y_opsAt y_broken y_arguments y_operands y_operator y_got) → D post') : ∀ n', cm_fi (cm_A x_parameterCount x_tokenKind x_tokenValue) s ((m, pl, pc, ar, (c, 0, 0, z) :: r) :: K) 1 < n' + 1 → wX_call_23 (fun r u' => D (fun r' v' => r' = r ∧ i_Rel kk u' v')) (n' + 1) (nI tt) (nI nc) (nI ns) (nI no) (nI nd) (-3) (nI s) (-9223372036854775808) x_enterGeneric x_enterPlace (nI (K.length + 1)) (nI (cm_ko (cm_vx x_tokenKind) ((m, pl, pc, ar, (c, 0, 0, z) :: r) :: K))) (nI (cm_kv (cm_vx x_tokenKind) ((m, pl, pc, ar, (c, 0, 0, z) :: r) :: K) + 1)) x_lineClass x_lineLength x_isSealed x_classHasSlot x_classSlot x_superDraft x_objectClass x_objectHasSlot x_objectSlot x_parameterCount x_methodGeneric x_specialiser x_tokenKind x_tokenValue x_tokenCount x_argument x_rank x_orderPlace x_frameMethod x_framePlace x_frameToken x_frameOperators x_frameArgument x_operatorKind x_operatorValue x_operatorLeft x_workedOut := by
  obtain ⟨gg, p, t, j, a1, a2, a3, a4, a5, a6, a7, a8, a9, a10, a11, a12, a13, a14, a15, a16, a17, a18⟩ := cm_top hC.2.2.2.2.2.1 h
  obtain ⟨k1, k2, k3, k4⟩ := cm_J_cnt h
  have hd := h.2.2.2.1
  have ho := h.1
  have ho20 := ho.1
  obtain ⟨x1, x2, x3, x4, x5, x6, x7, x8, x9⟩ := cm_item h (cm_vx_t (fun zz => by have z1 : x_tokenKind c = 10 := zz.1; rw [ek] at z1; exact absurd z1 (by decide)))
  obtain ⟨y1, y2, y3, y4, y5, y7, y8, y9⟩ := cm_itemY h
  have hcj : c % 16 = j := by omega
  have hc400 : c < 400 := by omega
  rw [hcj] at y4
  have htk := a12 j a10
  rw [← a11] at htk
  have e3 : ((m, pl, pc, ar, (c, 0, 0, z) :: r) :: K).length = K.length + 1 := rfl
  have e4 : cm_kl (cm_A x_parameterCount x_tokenKind x_tokenValue) ((m, pl, pc, ar, (c, 0, 0, z) :: r) :: K) = cm_kl (cm_A x_parameterCount x_tokenKind x_tokenValue) K + (cm_lf (cm_A x_parameterCount x_tokenKind x_tokenValue) r + ((cm_A x_parameterCount x_tokenKind x_tokenValue) c - 0)) := rfl
  have kn1 : cm_ni (cm_vx x_tokenKind) r ≤ cm_ni cm_al r := cm_ni_le _ _
  have kn2 : cm_nv (cm_vx x_tokenKind) r ≤ cm_nv cm_al r := cm_nv_le _ _
  have kk1 : cm_ko (cm_vx x_tokenKind) K ≤ cm_ko cm_al K := cm_ko_le _ _
  have kk2 : cm_kv (cm_vx x_tokenKind) K ≤ cm_kv cm_al K := cm_kv_le _ _
  have eTX : x_frameToken K.length = nI pc := h.2.2.2.2.2.2.1.1.2.2.1
  unfold cm_fi at hmu htt
  intro n' hn'
  unfold cm_fi at hn'
  have hA : (cm_A x_parameterCount x_tokenKind x_tokenValue) c = 3 := by rw [cm_kind ek]; rfl
  rw [x9] at hwo
  rw [hA, show cm_nd (cm_A x_parameterCount x_tokenKind x_tokenValue) r + (3 - 0 - 1) + 0 = 1 + (cm_nd (cm_A x_parameterCount x_tokenKind x_tokenValue) r + 1) by omega] at a17
  obtain ⟨e, he1, he2, he3⟩ := pa_split (t - pc) pc 1 (cm_nd (cm_A x_parameterCount x_tokenKind x_tokenValue) r + 1) a17
  rw [show t - pc - e = t - (pc + e) by omega] at he3
  have w1 : cm_kl (cm_A x_parameterCount x_tokenKind x_tokenValue) ((m, pl, pc, ar, (c, 1, 0, z) :: r) :: K) = cm_kl (cm_A x_parameterCount x_tokenKind x_tokenValue) K + (cm_lf (cm_A x_parameterCount x_tokenKind x_tokenValue) r + ((cm_A x_parameterCount x_tokenKind x_tokenValue) c - 1)) := rfl
  have w2 : ((m, pl, pc, ar, (c, 1, 0, z) :: r) :: K).length = K.length + 1 := rfl
  have p1 : cm_kl (cm_A x_parameterCount x_tokenKind x_tokenValue) ((m, pl, pc + e, ar, r) :: K) = cm_kl (cm_A x_parameterCount x_tokenKind x_tokenValue) K + cm_lf (cm_A x_parameterCount x_tokenKind x_tokenValue) r := rfl
  have p2 : ((m, pl, pc + e, ar, r) :: K).length = K.length + 1 := rfl
  have hJ0 := cm_mv_pop (x := 1) (pc' := pc + e) (fT' := upd x_frameToken K.length (nI (pc + e))) (pC' := upd y_pc K.length (nI (pc + e))) (oL' := upd x_operatorLeft (cm_ko (cm_vx x_tokenKind) K + cm_ni (cm_vx x_tokenKind) r) (nI 2)) (wo' := x_workedOut) (go' := upd y_got (cm_ko cm_al K + cm_ni cm_al r) (nI 1)) (od' := vp_updL y_operands (cm_kv cm_al ((m, pl, pc, ar, (c, 0, 0, z) :: r) :: K)) v) h (by omega) a8 a5 (by omega) he3 pk_us pk_us (fun j hj => pk_un (by omega)) (fun j hj => pk_un (by omega)) (fun j hj => pk_uLn (by omega)) (fun _ _ => rfl) (fun j hj => pk_un (by omega)) (fun j hj => pk_un (by omega))
  have hJ1 := cm_mv_if h ek hA (od' := vp_updL y_operands (cm_kv cm_al ((m, pl, pc, ar, (c, 0, 0, z) :: r) :: K)) v) (fun j hj => pk_uLn (by omega))
  have hv1 : (cm_vx x_tokenKind) (c, 1, 0, z) = true := (cm_vx_t (fun zz => by have z1 : x_tokenKind c = 10 := zz.1; rw [ek] at z1; exact absurd z1 (by decide)))
  obtain ⟨_, _, _, _, _, _, _, w8, w9⟩ := cm_item hJ1 hv1
  obtain ⟨_, _, _, _, _, _, w10, w11⟩ := cm_itemY hJ1
  have hYc : ∀ post' n1, (¬ v = 0 → cm_Q post' n1 (nI nc, nI ns, nI no, nI nd, nI (K.length + 1), nI ((cm_ko cm_al K + cm_ni cm_al r) + 1), nI (cm_kv cm_al ((m, pl, pc, ar, (c, 0, 0, z) :: r) :: K)), 0, nI s, y_shownSteps, -9223372036854775808, x_lineClass, x_lineLength, y_has, x_isSealed, y_initial, x_superDraft, y_draftHas, y_draftInitial, y_lists, y_listLength, y_gone, x_objectClass, y_slots, x_parameterCount, x_methodGeneric, y_single, y_special, x_tokenKind, x_tokenCount, x_tokenValue, y_methodAt, y_pc, y_chosen, y_many, y_reached, y_opsAt, y_broken, y_arguments, vp_updL y_operands (cm_kv cm_al ((m, pl, pc, ar, (c, 0, 0, z) :: r) :: K)) v, y_operator, upd y_got (cm_ko cm_al K + cm_ni cm_al r) (nI 1))) → (v = 0 → cm_Q post' n1 (nI nc, nI ns, nI no, nI nd, nI (K.length + 1), nI (cm_ko cm_al K + cm_ni cm_al r), nI (cm_kv cm_al ((m, pl, pc, ar, (c, 0, 0, z) :: r) :: K)), 0, nI s, y_shownSteps, -9223372036854775808, x_lineClass, x_lineLength, y_has, x_isSealed, y_initial, x_superDraft, y_draftHas, y_draftInitial, y_lists, y_listLength, y_gone, x_objectClass, y_slots, x_parameterCount, x_methodGeneric, y_single, y_special, x_tokenKind, x_tokenCount, x_tokenValue, y_methodAt, upd y_pc K.length (nI (pc + e)), y_chosen, y_many, y_reached, y_opsAt, y_broken, y_arguments, vp_updL y_operands (cm_kv cm_al ((m, pl, pc, ar, (c, 0, 0, z) :: r) :: K)) v, y_operator, upd y_got (cm_ko cm_al K + cm_ni cm_al r) (nI 1))) → D post' := by
    intro post' n1 hq1 hq0
    refine hY post' ⟨n1, 2, ?_⟩
    rw [y8]
    refine my_dl_item (n := 0) hd (by omega) (by omega) (by omega) (by omega) y1 y2 y4 y5 (fun P h0 h1 => ?_)
    rw [← a11]
    refine my_cp_if hc400 (by omega) (g1 := 1) (by omega) pk_us ek (fun P' hP' => ?_)
    refine my_choose1 (s := e) hd a1 hC.2.2.2.1 a5 a8 a12 y2 y3 (by omega) he2 (by omega) (fun zz => hP' _ _ (Or.inl rfl) (h0 _ (hq1 ?_))) (fun zz => hP' _ _ (Or.inl rfl) (h0 _ (hq0 ?_)))
    · rw [pk_uLs] at zz; exact zz
    · rw [pk_uLs] at zz; exact zz
  rw [x8, x9]
  refine mx_cl_T (by omega) (fun P hP => mx_tk_if1 hd (by omega) (by omega) x1 (vc := (cm_kv (cm_vx x_tokenKind) K + cm_nv (cm_vx x_tokenKind) r) + 0) (s := e) (by omega) a1 hC.2.2.2.1 a5 a8 a12 x2 x3 (by omega) he2 (by rw [x4, ek]) (by rw [x6, hA]) (fun zz => hP _ _ _ _ _ _ _ _ _ _ _ _ _ _ _ _ _ _ _ _ _ _ _ _ _ _ _ _ _ _ _ _ _ _ _ _ _ _ _ ?_) (fun zz => hP _ _ _ _ _ _ _ _ _ _ _ _ _ _ _ _ _ _ _ _ _ _ _ _ _ _ _ _ _ _ _ _ _ _ _ _ _ _ _ ?_))
  · have vz : v = 0 := by rw [← hwo]; exact zz
    exact ihW no s (tt + 1) (m, pl, pc + e, ar, r) K _ _ _ _ _ _ _ _ _ _ _ _ x_argument x_rank x_orderPlace x_enterGeneric x_enterPlace _ _ _ _ _ _ _ _ _ _ _ _ hJ0 hn (by unfold cm_fi; omega) (by unfold cm_fi; omega) (fun post' he => by
      obtain ⟨n1, hcl⟩ := he
      refine hYc post' n1 (fun w => absurd vz w) (fun _ => ?_)
      have eh : cm_kv cm_al ((m, pl, pc, ar, (c, 0, 0, z) :: r) :: K) = cm_kv cm_al ((m, pl, pc + e, ar, r) :: K) := by rw [y9]; rfl
      rw [eh] at hcl ⊢
      exact hcl) n' (by unfold cm_fi; omega)
  · have vz : ¬ v = 0 := by rw [← hwo]; exact zz
    have hr := ihW no s (tt + 1) (m, pl, pc, ar, (c, 1, 0, z) :: r) K _ _ _ _ _ _ _ _ _ _ _ _ x_argument x_rank x_orderPlace x_enterGeneric x_enterPlace _ _ _ _ _ _ _ _ _ _ _ _ hJ1 hn (by unfold cm_fi; omega) (by unfold cm_fi; omega) (fun post' he => by
      obtain ⟨n1, hcl⟩ := he
      refine hYc post' n1 (fun _ => ?_) (fun w => absurd w vz)
      rw [w10, w11] at hcl
      rw [y9] at hcl ⊢
      exact hcl) n' (by unfold cm_fi; omega)
    rw [w8, w9] at hr
    exact hr
theorem cm_T_if1 {μ no s tt m pl pc c : Nat} {z : Nat → Int64} {v : Int64} {ar : Nat → Int64} {r : List cm_It} {K : List cm_Fr} (hC : cm_C nc no0 ns nd x_lineClass x_lineLength x_methodGeneric x_parameterCount x_specialiser x_tokenKind x_tokenValue x_tokenCount x_isSealed x_classHasSlot x_classSlot x_superDraft y_has y_initial y_draftHas y_draftInitial y_lists y_listLength y_gone y_single y_special y_shownSteps) (ihT : cm_PT D kk nc no0 ns nd x_lineClass x_lineLength x_methodGeneric x_parameterCount x_specialiser x_tokenKind x_tokenValue x_tokenCount x_isSealed x_classHasSlot x_classSlot x_superDraft y_has y_initial y_draftHas y_draftInitial y_lists y_listLength y_gone y_single y_special y_shownSteps μ) (h : cm_J nc (0) ((m, pl, pc, ar, (c, 1, 0, z) :: r)) (K) (s) (no) x_lineClass x_lineLength x_methodGeneric x_parameterCount x_specialiser x_tokenKind x_tokenValue x_tokenCount x_objectClass x_objectHasSlot x_objectSlot x_frameMethod x_framePlace x_frameToken x_frameOperators x_frameArgument x_operatorKind x_operatorValue x_operatorLeft x_workedOut y_slots y_methodAt y_reached y_pc y_opsAt y_arguments y_operator y_got y_operands y_many y_broken y_chosen) (hn : no0 ≤ no) (hv : rl_val no v) (hwo : x_workedOut (cm_kv (cm_vx x_tokenKind) ((m, pl, pc, ar, (c, 1, 0, z) :: r) :: K)) = v) (hmu : cm_fi (cm_A x_parameterCount x_tokenKind x_tokenValue) s ((m, pl, pc, ar, (c, 1, 0, z) :: r) :: K) 1 ≤ μ + 1) (htt : tt + cm_fi (cm_A x_parameterCount x_tokenKind x_tokenValue) s ((m, pl, pc, ar, (c, 1, 0, z) :: r) :: K) 1 ≤ 4000) (ek : x_tokenKind c = nI 9)
    (hY : ∀ post' : Int32 → SY → Prop, (∃ n9 n5, wY_deliver_5 (cm_Q post' n9) n5 v 1 (nI nc) (nI ns) (nI no) (nI nd) (nI (K.length + 1)) (nI (cm_ko cm_al ((m, pl, pc, ar, (c, 1, 0, z) :: r) :: K))) (nI (cm_kv cm_al ((m, pl, pc, ar, (c, 1, 0, z) :: r) :: K))) 0 (nI s) y_shownSteps (-9223372036854775808) x_lineClass x_lineLength y_has x_isSealed y_initial x_superDraft y_draftHas y_draftInitial y_lists y_listLength y_gone x_objectClass y_slots x_parameterCount x_methodGeneric y_single y_special x_tokenKind x_tokenCount x_tokenValue y_methodAt y_pc y_chosen y_many y_reached y_opsAt y_broken y_arguments y_operands y_operator y_got) → D post') : ∀ n', cm_fi (cm_A x_parameterCount x_tokenKind x_tokenValue) s ((m, pl, pc, ar, (c, 1, 0, z) :: r) :: K) 1 < n' + 1 → wX_call_23 (fun r u' => D (fun r' v' => r' = r ∧ i_Rel kk u' v')) (n' + 1) (nI tt) (nI nc) (nI ns) (nI no) (nI nd) (-3) (nI s) (-9223372036854775808) x_enterGeneric x_enterPlace (nI (K.length + 1)) (nI (cm_ko (cm_vx x_tokenKind) ((m, pl, pc, ar, (c, 1, 0, z) :: r) :: K))) (nI (cm_kv (cm_vx x_tokenKind) ((m, pl, pc, ar, (c, 1, 0, z) :: r) :: K) + 1)) x_lineClass x_lineLength x_isSealed x_classHasSlot x_classSlot x_superDraft x_objectClass x_objectHasSlot x_objectSlot x_parameterCount x_methodGeneric x_specialiser x_tokenKind x_tokenValue x_tokenCount x_argument x_rank x_orderPlace x_frameMethod x_framePlace x_frameToken x_frameOperators x_frameArgument x_operatorKind x_operatorValue x_operatorLeft x_workedOut := by
  obtain ⟨gg, p, t, j, a1, a2, a3, a4, a5, a6, a7, a8, a9, a10, a11, a12, a13, a14, a15, a16, a17, a18⟩ := cm_top hC.2.2.2.2.2.1 h
  obtain ⟨k1, k2, k3, k4⟩ := cm_J_cnt h
  have hd := h.2.2.2.1
  have ho := h.1
  have ho20 := ho.1
  obtain ⟨x1, x2, x3, x4, x5, x6, x7, x8, x9⟩ := cm_item h (cm_vx_t (fun zz => by have z1 : x_tokenKind c = 10 := zz.1; rw [ek] at z1; exact absurd z1 (by decide)))
  obtain ⟨y1, y2, y3, y4, y5, y7, y8, y9⟩ := cm_itemY h
  have hcj : c % 16 = j := by omega
  have hc400 : c < 400 := by omega
  rw [hcj] at y4
  have htk := a12 j a10
  rw [← a11] at htk
  have e3 : ((m, pl, pc, ar, (c, 1, 0, z) :: r) :: K).length = K.length + 1 := rfl
  have e4 : cm_kl (cm_A x_parameterCount x_tokenKind x_tokenValue) ((m, pl, pc, ar, (c, 1, 0, z) :: r) :: K) = cm_kl (cm_A x_parameterCount x_tokenKind x_tokenValue) K + (cm_lf (cm_A x_parameterCount x_tokenKind x_tokenValue) r + ((cm_A x_parameterCount x_tokenKind x_tokenValue) c - 1)) := rfl
  have kn1 : cm_ni (cm_vx x_tokenKind) r ≤ cm_ni cm_al r := cm_ni_le _ _
  have kn2 : cm_nv (cm_vx x_tokenKind) r ≤ cm_nv cm_al r := cm_nv_le _ _
  have kk1 : cm_ko (cm_vx x_tokenKind) K ≤ cm_ko cm_al K := cm_ko_le _ _
  have kk2 : cm_kv (cm_vx x_tokenKind) K ≤ cm_kv cm_al K := cm_kv_le _ _
  have eTX : x_frameToken K.length = nI pc := h.2.2.2.2.2.2.1.1.2.2.1
  unfold cm_fi at hmu htt
  intro n' hn'
  unfold cm_fi at hn'
  have hA : (cm_A x_parameterCount x_tokenKind x_tokenValue) c = 3 := by rw [cm_kind ek]; rfl
  rw [x9] at hwo
  rw [hA, show cm_nd (cm_A x_parameterCount x_tokenKind x_tokenValue) r + (3 - 1 - 1) + 0 = 1 + cm_nd (cm_A x_parameterCount x_tokenKind x_tokenValue) r by omega] at a17
  obtain ⟨e, he1, he2, he3⟩ := pa_split (t - pc) pc 1 (cm_nd (cm_A x_parameterCount x_tokenKind x_tokenValue) r) a17
  rw [show t - pc - e = t - (pc + e) by omega] at he3
  have p1 : cm_kl (cm_A x_parameterCount x_tokenKind x_tokenValue) ((m, pl, pc + e, ar, r) :: K) = cm_kl (cm_A x_parameterCount x_tokenKind x_tokenValue) K + cm_lf (cm_A x_parameterCount x_tokenKind x_tokenValue) r := rfl
  have p2 : ((m, pl, pc + e, ar, r) :: K).length = K.length + 1 := rfl
  have hJ0 := cm_mv_pop (x := 0) (pc' := pc + e) (fT' := upd x_frameToken K.length (nI (pc + e))) (pC' := upd y_pc K.length (nI (pc + e))) (oL' := upd x_operatorLeft (cm_ko (cm_vx x_tokenKind) K + cm_ni (cm_vx x_tokenKind) r) (nI 1)) (wo' := x_workedOut) (go' := upd y_got (cm_ko cm_al K + cm_ni cm_al r) (nI 2)) (od' := vp_updL y_operands (cm_kv cm_al ((m, pl, pc, ar, (c, 1, 0, z) :: r) :: K)) v) h (by omega) a8 a5 (by omega) he3 pk_us pk_us (fun j hj => pk_un (by omega)) (fun j hj => pk_un (by omega)) (fun j hj => pk_uLn (by omega)) (fun _ _ => rfl) (fun j hj => pk_un (by omega)) (fun j hj => pk_un (by omega))
  have eh : cm_kv cm_al ((m, pl, pc, ar, (c, 1, 0, z) :: r) :: K) = cm_kv cm_al ((m, pl, pc + e, ar, r) :: K) := by rw [y9]; rfl
  rw [x8, x9]
  refine mx_cl_T (by omega) (fun P hP => mx_tk_if2 hd (by omega) (by omega) x1 (s := e) a1 hC.2.2.2.1 a5 a8 a12 x2 x3 (by omega) he2 (by rw [x4, ek]) (by rw [x6, hA]) (hP _ _ _ _ _ _ _ _ _ _ _ _ _ _ _ _ _ _ _ _ _ _ _ _ _ _ _ _ _ _ _ _ _ _ _ _ _ _ _ ?_))
  exact ihT no s (tt + 1) v (m, pl, pc + e, ar, r) K _ _ _ _ _ _ _ _ _ _ _ _ x_argument x_rank x_orderPlace x_enterGeneric x_enterPlace _ _ _ _ _ _ _ _ _ _ _ _ hJ0 hn hv hwo (by unfold cm_fi; omega) (by unfold cm_fi; omega) (fun post' he => by
    obtain ⟨n1, n5, hdl⟩ := he
    cases n5 with
    | zero => exact hdl.elim
    | succ n6 =>
      refine hY post' ⟨n1, n6 + 2, ?_⟩
      rw [y8]
      refine my_dl_item (n := n6) hd (by omega) (by omega) (by omega) (by omega) y1 y2 y4 y5 (fun P h0 h1 => ?_)
      rw [← a11]
      refine my_cp_if hc400 (by omega) (g1 := 2) (by omega) pk_us ek (fun P' hP' => ?_)
      refine my_choose2 (s := e) hd a1 hC.2.2.2.1 a5 a8 a12 y2 y3 (by omega) he2 (by omega) (hP' _ _ (Or.inr rfl) (h1 _ _ _ _ _ _ 0 _ _ _ _ _ _ _ _ _ _ _ _ _ _ _ _ _ _ _ _ _ _ _ _ _ _ _ _ _ _ _ _ _ _ _ (cm_kv cm_al ((m, pl, pc, ar, (c, 1, 0, z) :: r) :: K)) (by omega) ?_))
      rw [pk_uLs]
      rw [eh] at hdl ⊢
      exact hdl) n' (by unfold cm_fi; omega)
end
