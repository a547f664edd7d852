/-! the simulation: operators applied -/
section
variable {x_classCount : Int32} {x_superCount : Int32} {x_objectCount : Int32} {x_draftSpecialCount : Int32} {x_state : Int32} {x_stepCount : Int32} {x_latestValue : Int64} {x_enterGeneric : Int32} {x_enterPlace : Int32} {x_frameCount : Int32} {x_operatorCount : Int32} {x_valueCount : Int32} {x_lineClass : Nat → Int32} {x_lineLength : Nat → Int32} {x_isSealed : Nat → Int32} {x_classHasSlot : Nat → Int32} {x_classSlot : Nat → Int32} {x_superDraft : Nat → Int32} {x_objectClass : Nat → Int32} {x_objectHasSlot : Nat → Int32} {x_objectSlot : Nat → Int64} {x_parameterCount : Nat → Int32} {x_methodGeneric : Nat → Int32} {x_specialiser : Nat → Int64} {x_tokenKind : Nat → Int32} {x_tokenValue : Nat → Int32} {x_tokenCount : Nat → Int32} {x_argument : Nat → Int64} {x_rank : Nat → Int32} {x_orderPlace : Nat → Int32} {x_frameMethod : Nat → Int32} {x_framePlace : Nat → Int32} {x_frameToken : Nat → Int32} {x_frameOperators : Nat → Int32} {x_frameArgument : Nat → Int64} {x_operatorKind : Nat → Int32} {x_operatorValue : Nat → Int32} {x_operatorLeft : Nat → Int32} {x_workedOut : Nat → Int64} {y_classes : Int32} {y_supers : Int32} {y_objects : Int32} {y_specials : Int32} {y_depth : Int32} {y_ops : Int32} {y_held : Int32} {y_fault : Int32} {y_steps : Int32} {y_shownSteps : Int32} {y_result : Int64} {y_line : Nat → Int32} {y_lineLength : Nat → Int32} {y_has : Nat → Int32} {y_sealed : Nat → Int32} {y_initial : Nat → Int32} {y_drafted : Nat → Int32} {y_draftHas : Nat → Int32} {y_draftInitial : Nat → Int32} {y_lists : Nat → Int32} {y_listLength : Nat → Int32} {y_gone : Nat → Int32} {y_classOfObject : Nat → Int32} {y_slots : Nat → Int64} {y_parameters : Nat → Int32} {y_generic : Nat → Int32} {y_single : Nat → Int32} {y_special : Nat → Int64} {y_kind : Nat → Int32} {y_tokens : Nat → Int32} {y_with : Nat → Int32} {y_methodAt : Nat → Int32} {y_pc : Nat → Int32} {y_chosen : Nat → Int32} {y_many : Nat → Int32} {y_reached : Nat → Int32} {y_opsAt : Nat → Int32} {y_broken : Nat → Int32} {y_arguments : Nat → Int64} {y_operands : Nat → Int64} {y_operator : Nat → Int32} {y_got : Nat → Int32} {D : (Int32 → SY → Prop) → Prop} {kk nc no0 ns nd : Nat}
/-- an operator has given a value -/
theorem cm_T_val {μ no s tt m pl pc c g n : Nat} {z : Nat → Int64} {w : Int64} {ar : Nat → Int64} {r : List cm_It} {K : List cm_Fr} {od' OS' SL' : Nat → Int64} (hC : cm_C nc no0 ns nd x_lineClass x_lineLength x_methodGeneric x_parameterCount x_specialiser x_tokenKind x_tokenValue x_tokenCount x_isSealed x_classHasSlot x_classSlot x_superDraft y_has y_initial y_draftHas y_draftInitial y_lists y_listLength y_gone y_single y_special y_shownSteps) (ihT : cm_PT D kk nc no0 ns nd x_lineClass x_lineLength x_methodGeneric x_parameterCount x_specialiser x_tokenKind x_tokenValue x_tokenCount x_isSealed x_classHasSlot x_classSlot x_superDraft y_has y_initial y_draftHas y_draftInitial y_lists y_listLength y_gone y_single y_special y_shownSteps μ) (h : cm_J nc (0) ((m, pl, pc, ar, (c, g, n, z) :: r)) (K) (s) (no) x_lineClass x_lineLength x_methodGeneric x_parameterCount x_specialiser x_tokenKind x_tokenValue x_tokenCount x_objectClass x_objectHasSlot x_objectSlot x_frameMethod x_framePlace x_frameToken x_frameOperators x_frameArgument x_operatorKind x_operatorValue x_operatorLeft x_workedOut y_slots y_methodAt y_reached y_pc y_opsAt y_arguments y_operator y_got y_operands y_many y_broken y_chosen) (hn : no0 ≤ no) (hA : (cm_A x_parameterCount x_tokenKind x_tokenValue) c = g + 1) (hw : rl_val no w) (hod : ∀ j, j < (cm_kv cm_al K + cm_nv cm_al r) → od' j = y_operands j) (hob : rl_obj nc no x_objectClass x_objectHasSlot OS' SL') (hmu : cm_fi (cm_A x_parameterCount x_tokenKind x_tokenValue) s ((m, pl, pc, ar, (c, g, n, z) :: r) :: K) 1 ≤ μ + 1) (htt : tt + cm_fi (cm_A x_parameterCount x_tokenKind x_tokenValue) s ((m, pl, pc, ar, (c, g, n, z) :: r) :: K) 1 ≤ 4000)
    (hY : ∀ post' : Int32 → SY → Prop, (∃ n9 n5, wY_deliver_5 (cm_Q post' n9) n5 w 1 (nI nc) (nI ns) (nI no) (nI nd) (nI (K.length + 1)) (nI (cm_ko cm_al K + cm_ni cm_al r)) (nI (cm_kv cm_al K + cm_nv cm_al r)) 0 (nI s) y_shownSteps (-9223372036854775808) x_lineClass x_lineLength y_has x_isSealed y_initial x_superDraft y_draftHas y_draftInitial y_lists y_listLength y_gone x_objectClass SL' x_parameterCount x_methodGeneric y_single y_special x_tokenKind x_tokenCount x_tokenValue y_methodAt y_pc y_chosen y_many y_reached y_opsAt y_broken y_arguments od' y_operator (upd y_got (cm_ko cm_al K + cm_ni cm_al r) (nI (g + 1)))) → D post') : ∀ n', cm_fi (cm_A x_parameterCount x_tokenKind x_tokenValue) s ((m, pl, pc, ar, (c, g, n, z) :: r) :: K) 1 < n' + 1 → wX_call_23 (fun r u' => D (fun r' v' => r' = r ∧ i_Rel kk u' v')) n' (nI (tt + 1)) (nI nc) (nI ns) (nI no) (nI nd) (-3) (nI s) (-9223372036854775808) x_enterGeneric x_enterPlace (nI (K.length + 1)) (nI (cm_ko (cm_vx x_tokenKind) K + cm_ni (cm_vx x_tokenKind) r)) (nI ((cm_kv (cm_vx x_tokenKind) K + cm_nv (cm_vx x_tokenKind) r) + 1)) x_lineClass x_lineLength x_isSealed x_classHasSlot x_classSlot x_superDraft x_objectClass x_objectHasSlot OS' x_parameterCount x_methodGeneric x_specialiser x_tokenKind x_tokenValue x_tokenCount x_argument x_rank x_orderPlace x_frameMethod x_framePlace x_frameToken x_frameOperators x_frameArgument x_operatorKind x_operatorValue (upd x_operatorLeft (cm_ko (cm_vx x_tokenKind) K + cm_ni (cm_vx x_tokenKind) r) (nI 0)) (vp_updL x_workedOut (cm_kv (cm_vx x_tokenKind) K + cm_nv (cm_vx x_tokenKind) r) w) := by
  obtain ⟨gg, p, t, j, a1, a2, a3, a4, a5, a6, a7, a8, a9, a10, a11, a12, a13, a14, a15, a16, a17, a18⟩ := cm_top hC.2.2.2.2.2.1 h
  obtain ⟨y1, y2, y3, y4, y5, y7, y8, y9⟩ := cm_itemY h
  have eTX : x_frameToken K.length = nI pc := h.2.2.2.2.2.2.1.1.2.2.1
  have e3 : ((m, pl, pc, ar, (c, g, n, z) :: r) :: K).length = K.length + 1 := rfl
  have e4 : cm_kl (cm_A x_parameterCount x_tokenKind x_tokenValue) ((m, pl, pc, ar, (c, g, n, z) :: r) :: K) = cm_kl (cm_A x_parameterCount x_tokenKind x_tokenValue) K + (cm_lf (cm_A x_parameterCount x_tokenKind x_tokenValue) r + ((cm_A x_parameterCount x_tokenKind x_tokenValue) c - g)) := rfl
  have p1 : cm_kl (cm_A x_parameterCount x_tokenKind x_tokenValue) ((m, pl, pc, ar, r) :: K) = cm_kl (cm_A x_parameterCount x_tokenKind x_tokenValue) K + cm_lf (cm_A x_parameterCount x_tokenKind x_tokenValue) r := rfl
  have p2 : ((m, pl, pc, ar, r) :: K).length = K.length + 1 := rfl
  rw [hA, show cm_nd (cm_A x_parameterCount x_tokenKind x_tokenValue) r + (g + 1 - g - 1) + 0 = cm_nd (cm_A x_parameterCount x_tokenKind x_tokenValue) r + 0 by omega] at a17
  have hJ := cm_mv_pop (x := 0) (pc' := pc) (fT' := x_frameToken) (pC' := y_pc) (oL' := upd x_operatorLeft (cm_ko (cm_vx x_tokenKind) K + cm_ni (cm_vx x_tokenKind) r) (nI 0)) (wo' := vp_updL x_workedOut (cm_kv (cm_vx x_tokenKind) K + cm_nv (cm_vx x_tokenKind) r) w) (go' := upd y_got (cm_ko cm_al K + cm_ni cm_al r) (nI (g + 1))) (od' := od') h (by omega) a8 a5 a9 a17 eTX y3 (fun _ _ => rfl) (fun _ _ => rfl) hod (fun j hj => pk_uLn (by omega)) (fun j hj => pk_un (by omega)) (fun j hj => pk_un (by omega))
  have hJ2 := cm_mv_obj (no' := no) hJ (Nat.le_refl _) (OC' := x_objectClass) (OH' := x_objectHasSlot) (OS' := OS') (SL' := SL') (fun _ _ => rfl) hob
  unfold cm_fi at hmu htt
  intro n' hn'
  unfold cm_fi at hn'
  exact ihT no s (tt + 1) w (m, pl, pc, ar, r) K _ _ _ _ _ _ _ _ _ _ _ _ x_argument x_rank x_orderPlace x_enterGeneric x_enterPlace _ _ _ _ _ _ _ _ _ _ _ _ hJ2 hn hw pk_uLs (by unfold cm_fi; omega) (by unfold cm_fi; omega) hY n' (by unfold cm_fi; omega)
theorem cm_T_get {μ no s tt m pl pc c : Nat} {z : Nat → Int64} {v : Int64} {ar : Nat → Int64} {r : List cm_It} {K : List cm_Fr} (hC : cm_C nc no0 ns nd x_lineClass x_lineLength x_methodGeneric x_parameterCount x_specialiser x_tokenKind x_tokenValue x_tokenCount x_isSealed x_classHasSlot x_classSlot x_superDraft y_has y_initial y_draftHas y_draftInitial y_lists y_listLength y_gone y_single y_special y_shownSteps) (ihT : cm_PT D kk nc no0 ns nd x_lineClass x_lineLength x_methodGeneric x_parameterCount x_specialiser x_tokenKind x_tokenValue x_tokenCount x_isSealed x_classHasSlot x_classSlot x_superDraft y_has y_initial y_draftHas y_draftInitial y_lists y_listLength y_gone y_single y_special y_shownSteps μ) (h : cm_J nc (0) ((m, pl, pc, ar, (c, 0, 0, z) :: r)) (K) (s) (no) x_lineClass x_lineLength x_methodGeneric x_parameterCount x_specialiser x_tokenKind x_tokenValue x_tokenCount x_objectClass x_objectHasSlot x_objectSlot x_frameMethod x_framePlace x_frameToken x_frameOperators x_frameArgument x_operatorKind x_operatorValue x_operatorLeft x_workedOut y_slots y_methodAt y_reached y_pc y_opsAt y_arguments y_operator y_got y_operands y_many y_broken y_chosen) (hn : no0 ≤ no) (hv : rl_val no v) (hwo : x_workedOut (cm_kv (cm_vx x_tokenKind) ((m, pl, pc, ar, (c, 0, 0, z) :: r) :: K)) = v) (hmu : cm_fi (cm_A x_parameterCount x_tokenKind x_tokenValue) s ((m, pl, pc, ar, (c, 0, 0, z) :: r) :: K) 1 ≤ μ + 1) (htt : tt + cm_fi (cm_A x_parameterCount x_tokenKind x_tokenValue) s ((m, pl, pc, ar, (c, 0, 0, z) :: r) :: K) 1 ≤ 4000) {nn : Nat} (hnn : nn < 4) (ek : x_tokenKind c = nI 4) (ew : x_tokenValue c = nI nn)
    (hY : ∀ post' : Int32 → SY → Prop, (∃ n9 n5, wY_deliver_5 (cm_Q post' n9) n5 v 1 (nI nc) (nI ns) (nI no) (nI nd) (nI (K.length + 1)) (nI (cm_ko cm_al ((m, pl, pc, ar, (c, 0, 0, z) :: r) :: K))) (nI (cm_kv cm_al ((m, pl, pc, ar, (c, 0, 0, z) :: r) :: K))) 0 (nI s) y_shownSteps (-9223372036854775808) x_lineClass x_lineLength y_has x_isSealed y_initial x_superDraft y_draftHas y_draftInitial y_lists y_listLength y_gone x_objectClass y_slots x_parameterCount x_methodGeneric y_single y_special x_tokenKind x_tokenCount x_tokenValue y_methodAt y_pc y_chosen y_many y_reached y_opsAt y_broken y_arguments y_operands y_operator y_got) → D post') : ∀ n', cm_fi (cm_A x_parameterCount x_tokenKind x_tokenValue) s ((m, pl, pc, ar, (c, 0, 0, z) :: r) :: K) 1 < n' + 1 → wX_call_23 (fun r u' => D (fun r' v' => r' = r ∧ i_Rel kk u' v')) (n' + 1) (nI tt) (nI nc) (nI ns) (nI no) (nI nd) (-3) (nI s) (-9223372036854775808) x_enterGeneric x_enterPlace (nI (K.length + 1)) (nI (cm_ko (cm_vx x_tokenKind) ((m, pl, pc, ar, (c, 0, 0, z) :: r) :: K))) (nI (cm_kv (cm_vx x_tokenKind) ((m, pl, pc, ar, (c, 0, 0, z) :: r) :: K) + 1)) x_lineClass x_lineLength x_isSealed x_classHasSlot x_classSlot x_superDraft x_objectClass x_objectHasSlot x_objectSlot x_parameterCount x_methodGeneric x_specialiser x_tokenKind x_tokenValue x_tokenCount x_argument x_rank x_orderPlace x_frameMethod x_framePlace x_frameToken x_frameOperators x_frameArgument x_operatorKind x_operatorValue x_operatorLeft x_workedOut := by
  obtain ⟨gg, p, t, j, a1, a2, a3, a4, a5, a6, a7, a8, a9, a10, a11, a12, a13, a14, a15, a16, a17, a18⟩ := cm_top hC.2.2.2.2.2.1 h
  obtain ⟨k1, k2, k3, k4⟩ := cm_J_cnt h
  have hd := h.2.2.2.1
  have ho := h.1
  have ho20 := ho.1
  obtain ⟨x1, x2, x3, x4, x5, x6, x7, x8, x9⟩ := cm_item h (cm_vx_t (fun zz => by have z1 : x_tokenKind c = 10 := zz.1; rw [ek] at z1; exact absurd z1 (by decide)))
  obtain ⟨y1, y2, y3, y4, y5, y7, y8, y9⟩ := cm_itemY h
  have hcj : c % 16 = j := by omega
  have hc400 : c < 400 := by omega
  rw [hcj] at y4
  have htk := a12 j a10
  rw [← a11] at htk
  have e3 : ((m, pl, pc, ar, (c, 0, 0, z) :: r) :: K).length = K.length + 1 := rfl
  have e4 : cm_kl (cm_A x_parameterCount x_tokenKind x_tokenValue) ((m, pl, pc, ar, (c, 0, 0, z) :: r) :: K) = cm_kl (cm_A x_parameterCount x_tokenKind x_tokenValue) K + (cm_lf (cm_A x_parameterCount x_tokenKind x_tokenValue) r + ((cm_A x_parameterCount x_tokenKind x_tokenValue) c - 0)) := rfl
  have kn1 : cm_ni (cm_vx x_tokenKind) r ≤ cm_ni cm_al r := cm_ni_le _ _
  have kn2 : cm_nv (cm_vx x_tokenKind) r ≤ cm_nv cm_al r := cm_nv_le _ _
  have kk1 : cm_ko (cm_vx x_tokenKind) K ≤ cm_ko cm_al K := cm_ko_le _ _
  have kk2 : cm_kv (cm_vx x_tokenKind) K ≤ cm_kv cm_al K := cm_kv_le _ _
  have eTX : x_frameToken K.length = nI pc := h.2.2.2.2.2.2.1.1.2.2.1
  unfold cm_fi at hmu htt
  intro n' hn'
  unfold cm_fi at hn'
  have hA : (cm_A x_parameterCount x_tokenKind x_tokenValue) c = 1 := by rw [cm_kind ek]; rfl
  rw [x9] at hwo
  have hwo' : x_workedOut (cm_kv (cm_vx x_tokenKind) K + cm_nv (cm_vx x_tokenKind) r) = v := hwo
  have od1 : vp_updL y_operands ((cm_kv cm_al K + cm_nv cm_al r) + 0) v (cm_kv cm_al K + cm_nv cm_al r) = v := pk_uLs
  rw [x8, x9]
  refine mx_cl_T (by omega) (fun P hP => mx_tk_app hd (by omega) (by omega) x1 (q := 4) (w := nI nn) (by omega) (by omega) (by omega) (by rw [x4, ek]) (by rw [x6, hA]) (by rw [x5, ew]) (mx_ap_get (vc := (cm_kv (cm_vx x_tokenKind) K + cm_nv (cm_vx x_tokenKind) r)) ho20 hnn (by omega) (fun hE => hP _ _ _ _ _ _ _ _ _ _ _ _ _ _ _ _ _ _ _ _ _ _ _ _ _ _ _ _ _ _ _ _ _ _ _ _ _ _ _ ?_) (fun k hk e1 e2 => hP _ _ _ _ _ _ _ _ _ _ _ _ _ _ _ _ _ _ _ _ _ _ _ _ _ _ _ _ _ _ _ _ _ _ _ _ _ _ _ ?_)))
  · rw [hwo'] at hE
    refine cm_halt (y_depth := nI (K.length + 1)) (y_ops := nI (cm_ko cm_al K + cm_ni cm_al r)) (y_held := nI (cm_kv cm_al K + cm_nv cm_al r)) (y_shownSteps := y_shownSteps) (y_has := y_has) (y_initial := y_initial) (y_draftHas := y_draftHas) (y_draftInitial := y_draftInitial) (y_lists := y_lists) (y_listLength := y_listLength) (y_gone := y_gone) (y_slots := y_slots) (y_single := y_single) (y_special := y_special) (y_methodAt := y_methodAt) (y_pc := y_pc) (y_chosen := y_chosen) (y_many := y_many) (y_reached := y_reached) (y_opsAt := y_opsAt) (y_broken := y_broken) (y_arguments := y_arguments) (y_operands := vp_updL (vp_updL y_operands ((cm_kv cm_al K + cm_nv cm_al r) + 0) v) (cm_kv cm_al K + cm_nv cm_al r) 0) (y_operator := y_operator) (y_got := upd y_got (cm_ko cm_al K + cm_ni cm_al r) (nI 1)) (F := 4) (by decide) (by decide) hC hn ho (fun post' he => ?_) n' (by omega)
    obtain ⟨n1, hcl⟩ := he
    refine hY post' ⟨n1, 0 + 2, ?_⟩
    rw [y8]
    refine my_dl_item (n := 0) hd (by omega) (by omega) (by omega) (by omega) y1 y2 y4 y5 (fun P h0 h1 => ?_)
    rw [← a11, y9]
    refine my_cp_get (hh := (cm_kv cm_al K + cm_nv cm_al r)) hc400 (by omega) (g1 := 1) (by omega) pk_us hC.2.2.2.1 htk hA ho20 hnn (by omega) ek ew (by rw [od1]; exact hv) (fun _ => h1 _ _ _ _ _ _ 0 _ _ _ _ _ _ _ _ _ _ _ _ _ _ _ _ _ _ _ _ _ _ _ _ _ _ _ _ _ _ _ _ _ _ _ (cm_kv cm_al K + cm_nv cm_al r) (by omega) (my_dl_fault (by decide) hcl)) (fun k hk e1 e2 => ?_)
    rw [od1] at e1
    rcases ob_sl ho hk hnn with ⟨_, z2⟩ | ⟨z1, _⟩
    · exact absurd z2 e2
    · exact absurd ⟨k, hk, e1, z1⟩ hE
  · rw [hwo'] at e1
    rcases ob_sl ho hk hnn with ⟨z1, _⟩ | ⟨z1, z2, z3, z4⟩
    · exact absurd z1 e2
    · refine cm_T_val (od' := vp_updL (vp_updL y_operands ((cm_kv cm_al K + cm_nv cm_al r) + 0) v) (cm_kv cm_al K + cm_nv cm_al r) (x_objectSlot (4 * k + nn))) hC ihT h hn hA z4 (fun j hj => by rw [pk_uLn (by omega), pk_uLn (by omega)]) ho (by unfold cm_fi; omega) (by unfold cm_fi; omega) (fun post' he => ?_) n' (by unfold cm_fi; omega)
      obtain ⟨n1, n5, hdl⟩ := he
      cases n5 with
      | zero => exact hdl.elim
      | succ n6 =>
        refine hY post' ⟨n1, n6 + 2, ?_⟩
        rw [y8]
        refine my_dl_item (n := n6) hd (by omega) (by omega) (by omega) (by omega) y1 y2 y4 y5 (fun P h0 h1 => ?_)
        rw [← a11, y9]
        refine my_cp_get (hh := (cm_kv cm_al K + cm_nv cm_al r)) hc400 (by omega) (g1 := 1) (by omega) pk_us hC.2.2.2.1 htk hA ho20 hnn (by omega) ek ew (by rw [od1]; exact hv) (fun hE => ?_) (fun k' hk' e1' e2' => ?_)
        · rw [od1] at hE
          exact absurd ⟨k, hk, e1, z2⟩ hE
        · rw [od1, e1] at e1'
          have ekk := ob_inj (by omega) (by omega) e1'
          subst ekk
          refine h1 _ _ _ _ _ _ 0 _ _ _ _ _ _ _ _ _ _ _ _ _ _ _ _ _ _ _ _ _ _ _ _ _ _ _ _ _ _ _ _ _ _ _ (cm_kv cm_al K + cm_nv cm_al r) (by omega) ?_
          rw [pk_uLs, z3]
          exact hdl
theorem cm_T_is {μ no s tt m pl pc c : Nat} {z : Nat → Int64} {v : Int64} {ar : Nat → Int64} {r : List cm_It} {K : List cm_Fr} (hC : cm_C nc no0 ns nd x_lineClass x_lineLength x_methodGeneric x_parameterCount x_specialiser x_tokenKind x_tokenValue x_tokenCount x_isSealed x_classHasSlot x_classSlot x_superDraft y_has y_initial y_draftHas y_draftInitial y_lists y_listLength y_gone y_single y_special y_shownSteps) (ihT : cm_PT D kk nc no0 ns nd x_lineClass x_lineLength x_methodGeneric x_parameterCount x_specialiser x_tokenKind x_tokenValue x_tokenCount x_isSealed x_classHasSlot x_classSlot x_superDraft y_has y_initial y_draftHas y_draftInitial y_lists y_listLength y_gone y_single y_special y_shownSteps μ) (h : cm_J nc (0) ((m, pl, pc, ar, (c, 0, 0, z) :: r)) (K) (s) (no) x_lineClass x_lineLength x_methodGeneric x_parameterCount x_specialiser x_tokenKind x_tokenValue x_tokenCount x_objectClass x_objectHasSlot x_objectSlot x_frameMethod x_framePlace x_frameToken x_frameOperators x_frameArgument x_operatorKind x_operatorValue x_operatorLeft x_workedOut y_slots y_methodAt y_reached y_pc y_opsAt y_arguments y_operator y_got y_operands y_many y_broken y_chosen) (hn : no0 ≤ no) (hv : rl_val no v) (hwo : x_workedOut (cm_kv (cm_vx x_tokenKind) ((m, pl, pc, ar, (c, 0, 0, z) :: r) :: K)) = v) (hmu : cm_fi (cm_A x_parameterCount x_tokenKind x_tokenValue) s ((m, pl, pc, ar, (c, 0, 0, z) :: r) :: K) 1 ≤ μ + 1) (htt : tt + cm_fi (cm_A x_parameterCount x_tokenKind x_tokenValue) s ((m, pl, pc, ar, (c, 0, 0, z) :: r) :: K) 1 ≤ 4000) (ek : x_tokenKind c = nI 11)
    (hY : ∀ post' : Int32 → SY → Prop, (∃ n9 n5, wY_deliver_5 (cm_Q post' n9) n5 v 1 (nI nc) (nI ns) (nI no) (nI nd) (nI (K.length + 1)) (nI (cm_ko cm_al ((m, pl, pc, ar, (c, 0, 0, z) :: r) :: K))) (nI (cm_kv cm_al ((m, pl, pc, ar, (c, 0, 0, z) :: r) :: K))) 0 (nI s) y_shownSteps (-9223372036854775808) x_lineClass x_lineLength y_has x_isSealed y_initial x_superDraft y_draftHas y_draftInitial y_lists y_listLength y_gone x_objectClass y_slots x_parameterCount x_methodGeneric y_single y_special x_tokenKind x_tokenCount x_tokenValue y_methodAt y_pc y_chosen y_many y_reached y_opsAt y_broken y_arguments y_operands y_operator y_got) → D post') : ∀ n', cm_fi (cm_A x_parameterCount x_tokenKind x_tokenValue) s ((m, pl, pc, ar, (c, 0, 0, z) :: r) :: K) 1 < n' + 1 → wX_call_23 (fun r u' => D (fun r' v' => r' = r ∧ i_Rel kk u' v')) (n' + 1) (nI tt) (nI nc) (nI ns) (nI no) (nI nd) (-3) (nI s) (-9223372036854775808) x_enterGeneric x_enterPlace (nI (K.length + 1)) (nI (cm_ko (cm_vx x_tokenKind) ((m, pl, pc, ar, (c, 0, 0, z) :: r) :: K))) (nI (cm_kv (cm_vx x_tokenKind) ((m, pl, pc, ar, (c, 0, 0, z) :: r) :: K) + 1)) x_lineClass x_lineLength x_isSealed x_classHasSlot x_classSlot x_superDraft x_objectClass x_objectHasSlot x_objectSlot x_parameterCount x_methodGeneric x_specialiser x_tokenKind x_tokenValue x_tokenCount x_argument x_rank x_orderPlace x_frameMethod x_framePlace x_frameToken x_frameOperators x_frameArgument x_operatorKind x_operatorValue x_operatorLeft x_workedOut := by
  obtain ⟨gg, p, t, j, a1, a2, a3, a4, a5, a6, a7, a8, a9, a10, a11, a12, a13, a14, a15, a16, a17, a18⟩ := cm_top hC.2.2.2.2.2.1 h
  obtain ⟨k1, k2, k3, k4⟩ := cm_J_cnt h
  have hd := h.2.2.2.1
  have ho := h.1
  have ho20 := ho.1
  obtain ⟨x1, x2, x3, x4, x5, x6, x7, x8, x9⟩ := cm_item h (cm_vx_t (fun zz => by have z1 : x_tokenKind c = 10 := zz.1; rw [ek] at z1; exact absurd z1 (by decide)))
  obtain ⟨y1, y2, y3, y4, y5, y7, y8, y9⟩ := cm_itemY h
  have hcj : c % 16 = j := by omega
  have hc400 : c < 400 := by omega
  rw [hcj] at y4
  have htk := a12 j a10
  rw [← a11] at htk
  have e3 : ((m, pl, pc, ar, (c, 0, 0, z) :: r) :: K).length = K.length + 1 := rfl
  have e4 : cm_kl (cm_A x_parameterCount x_tokenKind x_tokenValue) ((m, pl, pc, ar, (c, 0, 0, z) :: r) :: K) = cm_kl (cm_A x_parameterCount x_tokenKind x_tokenValue) K + (cm_lf (cm_A x_parameterCount x_tokenKind x_tokenValue) r + ((cm_A x_parameterCount x_tokenKind x_tokenValue) c - 0)) := rfl
  have kn1 : cm_ni (cm_vx x_tokenKind) r ≤ cm_ni cm_al r := cm_ni_le _ _
  have kn2 : cm_nv (cm_vx x_tokenKind) r ≤ cm_nv cm_al r := cm_nv_le _ _
  have kk1 : cm_ko (cm_vx x_tokenKind) K ≤ cm_ko cm_al K := cm_ko_le _ _
  have kk2 : cm_kv (cm_vx x_tokenKind) K ≤ cm_kv cm_al K := cm_kv_le _ _
  have eTX : x_frameToken K.length = nI pc := h.2.2.2.2.2.2.1.1.2.2.1
  unfold cm_fi at hmu htt
  intro n' hn'
  unfold cm_fi at hn'
  have hA : (cm_A x_parameterCount x_tokenKind x_tokenValue) c = 1 := by rw [cm_kind ek]; rfl
  rw [x9] at hwo
  have hwo' : x_workedOut (cm_kv (cm_vx x_tokenKind) K + cm_nv (cm_vx x_tokenKind) r) = v := hwo
  have od1 : vp_updL y_operands ((cm_kv cm_al K + cm_nv cm_al r) + 0) v (cm_kv cm_al K + cm_nv cm_al r) = v := pk_uLs
  have hw : ∀ p : Prop, rl_val no (bs_ci p 0 1) := by
    intro p
    by_cases z : p
    · rw [bs_ct z]; exact Or.inl (show (0 : Int64) = _ by decide)
    · rw [bs_cf z]; exact Or.inl (show (1 : Int64) = _ by decide)
  rw [x8, x9]
  refine mx_cl_T (by omega) (fun P hP => mx_tk_app hd (by omega) (by omega) x1 (q := 11) (w := x_tokenValue c) (by omega) (by omega) (by omega) (by rw [x4, ek]) (by rw [x6, hA]) x5 (mx_ap_is (vc := (cm_kv (cm_vx x_tokenKind) K + cm_nv (cm_vx x_tokenKind) r)) hC.1 ho20 ho.2.1 (by rw [hwo']; exact hv) (by omega) (hP _ _ _ _ _ _ _ _ _ _ _ _ _ _ _ _ _ _ _ _ _ _ _ _ _ _ _ _ _ _ _ _ _ _ _ _ _ _ _ ?_)))
  rw [hwo']
  refine cm_T_val (od' := vp_updL (vp_updL y_operands ((cm_kv cm_al K + cm_nv cm_al r) + 0) v) (cm_kv cm_al K + cm_nv cm_al r) (bs_ci (or_pl x_lineClass x_lineLength (ob_kc x_objectClass no v).toNatClampNeg (x_tokenValue c) = -1) 0 1)) hC ihT h hn hA (hw _) (fun j hj => by rw [pk_uLn (by omega), pk_uLn (by omega)]) ho (by unfold cm_fi; omega) (by unfold cm_fi; omega) (fun post' he => ?_) n' (by unfold cm_fi; omega)
  obtain ⟨n1, n5, hdl⟩ := he
  cases n5 with
  | zero => exact hdl.elim
  | succ n6 =>
    refine hY post' ⟨n1, n6 + 2, ?_⟩
    rw [y8]
    refine my_dl_item (n := n6) hd (by omega) (by omega) (by omega) (by omega) y1 y2 y4 y5 (fun P h0 h1 => ?_)
    rw [← a11, y9]
    refine my_cp_is (hh := (cm_kv cm_al K + cm_nv cm_al r)) hc400 (by omega) (g1 := 1) (by omega) pk_us hC.2.2.2.1 htk hA hC.1 ho20 ho.2.1 (by omega) ek (by rw [od1]; exact hv) (h1 _ _ _ _ _ _ 0 _ _ _ _ _ _ _ _ _ _ _ _ _ _ _ _ _ _ _ _ _ _ _ _ _ _ _ _ _ _ _ _ _ _ _ (cm_kv cm_al K + cm_nv cm_al r) (by omega) ?_)
    rw [pk_uLs, od1]
    exact hdl
theorem cm_T_set {μ no s tt m pl pc c : Nat} {z : Nat → Int64} {v : Int64} {ar : Nat → Int64} {r : List cm_It} {K : List cm_Fr} (hC : cm_C nc no0 ns nd x_lineClass x_lineLength x_methodGeneric x_parameterCount x_specialiser x_tokenKind x_tokenValue x_tokenCount x_isSealed x_classHasSlot x_classSlot x_superDraft y_has y_initial y_draftHas y_draftInitial y_lists y_listLength y_gone y_single y_special y_shownSteps) (ihT : cm_PT D kk nc no0 ns nd x_lineClass x_lineLength x_methodGeneric x_parameterCount x_specialiser x_tokenKind x_tokenValue x_tokenCount x_isSealed x_classHasSlot x_classSlot x_superDraft y_has y_initial y_draftHas y_draftInitial y_lists y_listLength y_gone y_single y_special y_shownSteps μ) (h : cm_J nc (0) ((m, pl, pc, ar, (c, 1, 1, z) :: r)) (K) (s) (no) x_lineClass x_lineLength x_methodGeneric x_parameterCount x_specialiser x_tokenKind x_tokenValue x_tokenCount x_objectClass x_objectHasSlot x_objectSlot x_frameMethod x_framePlace x_frameToken x_frameOperators x_frameArgument x_operatorKind x_operatorValue x_operatorLeft x_workedOut y_slots y_methodAt y_reached y_pc y_opsAt y_arguments y_operator y_got y_operands y_many y_broken y_chosen) (hn : no0 ≤ no) (hv : rl_val no v) (hwo : x_workedOut (cm_kv (cm_vx x_tokenKind) ((m, pl, pc, ar, (c, 1, 1, z) :: r) :: K)) = v) (hmu : cm_fi (cm_A x_parameterCount x_tokenKind x_tokenValue) s ((m, pl, pc, ar, (c, 1, 1, z) :: r) :: K) 1 ≤ μ + 1) (htt : tt + cm_fi (cm_A x_parameterCount x_tokenKind x_tokenValue) s ((m, pl, pc, ar, (c, 1, 1, z) :: r) :: K) 1 ≤ 4000) {nn : Nat} (hnn : nn < 4) (ek : x_tokenKind c = nI 5) (ew : x_tokenValue c = nI nn)
    (hY : ∀ post' : Int32 → SY → Prop, (∃ n9 n5, wY_deliver_5 (cm_Q post' n9) n5 v 1 (nI nc) (nI ns) (nI no) (nI nd) (nI (K.length + 1)) (nI (cm_ko cm_al ((m, pl, pc, ar, (c, 1, 1, z) :: r) :: K))) (nI (cm_kv cm_al ((m, pl, pc, ar, (c, 1, 1, z) :: r) :: K))) 0 (nI s) y_shownSteps (-9223372036854775808) x_lineClass x_lineLength y_has x_isSealed y_initial x_superDraft y_draftHas y_draftInitial y_lists y_listLength y_gone x_objectClass y_slots x_parameterCount x_methodGeneric y_single y_special x_tokenKind x_tokenCount x_tokenValue y_methodAt y_pc y_chosen y_many y_reached y_opsAt y_broken y_arguments y_operands y_operator y_got) → D post') : ∀ n', cm_fi (cm_A x_parameterCount x_tokenKind x_tokenValue) s ((m, pl, pc, ar, (c, 1, 1, z) :: r) :: K) 1 < n' + 1 → wX_call_23 (fun r u' => D (fun r' v' => r' = r ∧ i_Rel kk u' v')) (n' + 1) (nI tt) (nI nc) (nI ns) (nI no) (nI nd) (-3) (nI s) (-9223372036854775808) x_enterGeneric x_enterPlace (nI (K.length + 1)) (nI (cm_ko (cm_vx x_tokenKind) ((m, pl, pc, ar, (c, 1, 1, z) :: r) :: K))) (nI (cm_kv (cm_vx x_tokenKind) ((m, pl, pc, ar, (c, 1, 1, z) :: r) :: K) + 1)) x_lineClass x_lineLength x_isSealed x_classHasSlot x_classSlot x_superDraft x_objectClass x_objectHasSlot x_objectSlot x_parameterCount x_methodGeneric x_specialiser x_tokenKind x_tokenValue x_tokenCount x_argument x_rank x_orderPlace x_frameMethod x_framePlace x_frameToken x_frameOperators x_frameArgument x_operatorKind x_operatorValue x_operatorLeft x_workedOut := by
  obtain ⟨gg, p, t, j, a1, a2, a3, a4, a5, a6, a7, a8, a9, a10, a11, a12, a13, a14, a15, a16, a17, a18⟩ := cm_top hC.2.2.2.2.2.1 h
  obtain ⟨k1, k2, k3, k4⟩ := cm_J_cnt h
  have hd := h.2.2.2.1
  have ho := h.1
  have ho20 := ho.1
  obtain ⟨x1, x2, x3, x4, x5, x6, x7, x8, x9⟩ := cm_item h (cm_vx_t (fun zz => by have z1 : x_tokenKind c = 10 := zz.1; rw [ek] at z1; exact absurd z1 (by decide)))
  obtain ⟨y1, y2, y3, y4, y5, y7, y8, y9⟩ := cm_itemY h
  have hcj : c % 16 = j := by omega
  have hc400 : c < 400 := by omega
  rw [hcj] at y4
  have htk := a12 j a10
  rw [← a11] at htk
  have e3 : ((m, pl, pc, ar, (c, 1, 1, z) :: r) :: K).length = K.length + 1 := rfl
  have e4 : cm_kl (cm_A x_parameterCount x_tokenKind x_tokenValue) ((m, pl, pc, ar, (c, 1, 1, z) :: r) :: K) = cm_kl (cm_A x_parameterCount x_tokenKind x_tokenValue) K + (cm_lf (cm_A x_parameterCount x_tokenKind x_tokenValue) r + ((cm_A x_parameterCount x_tokenKind x_tokenValue) c - 1)) := rfl
  have kn1 : cm_ni (cm_vx x_tokenKind) r ≤ cm_ni cm_al r := cm_ni_le _ _
  have kn2 : cm_nv (cm_vx x_tokenKind) r ≤ cm_nv cm_al r := cm_nv_le _ _
  have kk1 : cm_ko (cm_vx x_tokenKind) K ≤ cm_ko cm_al K := cm_ko_le _ _
  have kk2 : cm_kv (cm_vx x_tokenKind) K ≤ cm_kv cm_al K := cm_kv_le _ _
  have eTX : x_frameToken K.length = nI pc := h.2.2.2.2.2.2.1.1.2.2.1
  unfold cm_fi at hmu htt
  intro n' hn'
  unfold cm_fi at hn'
  have hA : (cm_A x_parameterCount x_tokenKind x_tokenValue) c = 2 := by rw [cm_kind ek]; rfl
  rw [x9] at hwo
  have hx0 : x_workedOut (cm_kv (cm_vx x_tokenKind) K + cm_nv (cm_vx x_tokenKind) r) = z 0 := by
    have := x7 0 (by omega)
    rw [Nat.add_zero] at this
    exact this
  have hy0 : y_operands (cm_kv cm_al K + cm_nv cm_al r) = z 0 := by
    have := y7 0 (by omega)
    rw [Nat.add_zero] at this
    exact this
  have hz0 := a16 0 (by omega)
  have od1 : vp_updL y_operands ((cm_kv cm_al K + cm_nv cm_al r) + 1) v ((cm_kv cm_al K + cm_nv cm_al r) + 1) = v := pk_uLs
  have od0 : vp_updL y_operands ((cm_kv cm_al K + cm_nv cm_al r) + 1) v (cm_kv cm_al K + cm_nv cm_al r) = z 0 := by rw [pk_uLn (by omega)]; exact hy0
  rw [x8, x9]
  refine mx_cl_T (by omega) (fun P hP => mx_tk_app hd (by omega) (by omega) x1 (q := 5) (w := nI nn) (by omega) (by omega) (by omega) (by rw [x4, ek]) (by rw [x6, hA]) (by rw [x5, ew]) (mx_ap_set (b := (cm_kv (cm_vx x_tokenKind) K + cm_nv (cm_vx x_tokenKind) r)) ho20 hnn (by omega) (fun hE => hP _ _ _ _ _ _ _ _ _ _ _ _ _ _ _ _ _ _ _ _ _ _ _ _ _ _ _ _ _ _ _ _ _ _ _ _ _ _ _ ?_) (fun k hk e1 e2 => hP _ _ _ _ _ _ _ _ _ _ _ _ _ _ _ _ _ _ _ _ _ _ _ _ _ _ _ _ _ _ _ _ _ _ _ _ _ _ _ ?_)))
  · rw [hx0] at hE
    refine cm_halt (y_depth := nI (K.length + 1)) (y_ops := nI (cm_ko cm_al K + cm_ni cm_al r)) (y_held := nI (cm_kv cm_al K + cm_nv cm_al r)) (y_shownSteps := y_shownSteps) (y_has := y_has) (y_initial := y_initial) (y_draftHas := y_draftHas) (y_draftInitial := y_draftInitial) (y_lists := y_lists) (y_listLength := y_listLength) (y_gone := y_gone) (y_slots := y_slots) (y_single := y_single) (y_special := y_special) (y_methodAt := y_methodAt) (y_pc := y_pc) (y_chosen := y_chosen) (y_many := y_many) (y_reached := y_reached) (y_opsAt := y_opsAt) (y_broken := y_broken) (y_arguments := y_arguments) (y_operands := vp_updL (vp_updL y_operands ((cm_kv cm_al K + cm_nv cm_al r) + 1) v) (cm_kv cm_al K + cm_nv cm_al r) v) (y_operator := y_operator) (y_got := upd y_got (cm_ko cm_al K + cm_ni cm_al r) (nI 2)) (F := 4) (by decide) (by decide) hC hn ho (fun post' he => ?_) n' (by omega)
    obtain ⟨n1, hcl⟩ := he
    refine hY post' ⟨n1, 0 + 2, ?_⟩
    rw [y8]
    refine my_dl_item (n := 0) hd (by omega) (by omega) (by omega) (by omega) y1 y2 y4 y5 (fun P h0 h1 => ?_)
    rw [← a11, y9]
    refine my_cp_two (hh := (cm_kv cm_al K + cm_nv cm_al r)) hc400 (by omega) (g1 := 2) (by omega) pk_us hC.2.2.2.1 htk hA (q := 5) (by omega) (by omega) ek (fun Q hQ => ?_)
    rw [od1]
    refine my_two (no := no) (n := nn) ho20 (by omega) (by omega) (fun _ => ⟨hnn, ew⟩) (by rw [od0]; exact hz0) (fun zz => by omega) (fun _ _ => hQ _ (h1 _ _ _ _ _ _ 0 _ _ _ _ _ _ _ _ _ _ _ _ _ _ _ _ _ _ _ _ _ _ _ _ _ _ _ _ _ _ _ _ _ _ _ (cm_kv cm_al K + cm_nv cm_al r) (by omega) (my_dl_fault (by decide) hcl))) (fun _ k hk e1 e2 => ?_) (fun zz zz2 => by omega) (fun zz zz2 => by omega) rfl
    rw [od0] at e1
    rcases ob_sl ho hk hnn with ⟨_, z2⟩ | ⟨z1, _⟩
    · exact absurd z2 e2
    · exact absurd ⟨k, hk, e1, z1⟩ hE
  · rw [hx0] at e1
    rcases ob_sl ho hk hnn with ⟨z1, _⟩ | ⟨z1, z2, z3, z4⟩
    · exact absurd z1 e2
    · rw [hwo]
      refine cm_T_val (od' := vp_updL (vp_updL y_operands ((cm_kv cm_al K + cm_nv cm_al r) + 1) v) (cm_kv cm_al K + cm_nv cm_al r) v) (SL' := vp_updL y_slots (4 * k + nn) v) hC ihT h hn hA hv (fun j hj => by rw [pk_uLn (by omega), pk_uLn (by omega)]) (ob_set ho hk hnn z1 hv) (by unfold cm_fi; omega) (by unfold cm_fi; omega) (fun post' he => ?_) n' (by unfold cm_fi; omega)
      obtain ⟨n1, n5, hdl⟩ := he
      cases n5 with
      | zero => exact hdl.elim
      | succ n6 =>
        refine hY post' ⟨n1, n6 + 2, ?_⟩
        rw [y8]
        refine my_dl_item (n := n6) hd (by omega) (by omega) (by omega) (by omega) y1 y2 y4 y5 (fun P h0 h1 => ?_)
        rw [← a11, y9]
        refine my_cp_two (hh := (cm_kv cm_al K + cm_nv cm_al r)) hc400 (by omega) (g1 := 2) (by omega) pk_us hC.2.2.2.1 htk hA (q := 5) (by omega) (by omega) ek (fun Q hQ => ?_)
        rw [od1]
        refine my_two (no := no) (n := nn) ho20 (by omega) (by omega) (fun _ => ⟨hnn, ew⟩) (by rw [od0]; exact hz0) (fun zz => by omega) (fun _ hE => ?_) (fun _ k' hk' e1' e2' => ?_) (fun zz zz2 => by omega) (fun zz zz2 => by omega) rfl
        · unfold cm_no at hE
          rw [od0] at hE
          exact absurd ⟨k, hk, e1, z2⟩ hE
        · rw [od0, e1] at e1'
          have ekk := ob_inj (by omega) (by omega) e1'
          subst ekk
          refine hQ _ (h1 _ _ _ _ _ _ 0 _ _ _ _ _ _ _ _ _ _ _ _ _ _ _ _ _ _ _ _ _ _ _ _ _ _ _ _ _ _ _ _ _ _ _ (cm_kv cm_al K + cm_nv cm_al r) (by omega) ?_)
          rw [pk_uLs]
          exact hdl
theorem cm_T_int {μ no s tt m pl pc c : Nat} {z : Nat → Int64} {v : Int64} {ar : Nat → Int64} {r : List cm_It} {K : List cm_Fr} (hC : cm_C nc no0 ns nd x_lineClass x_lineLength x_methodGeneric x_parameterCount x_specialiser x_tokenKind x_tokenValue x_tokenCount x_isSealed x_classHasSlot x_classSlot x_superDraft y_has y_initial y_draftHas y_draftInitial y_lists y_listLength y_gone y_single y_special y_shownSteps) (ihT : cm_PT D kk nc no0 ns nd x_lineClass x_lineLength x_methodGeneric x_parameterCount x_specialiser x_tokenKind x_tokenValue x_tokenCount x_isSealed x_classHasSlot x_classSlot x_superDraft y_has y_initial y_draftHas y_draftInitial y_lists y_listLength y_gone y_single y_special y_shownSteps μ) (h : cm_J nc (0) ((m, pl, pc, ar, (c, 1, 1, z) :: r)) (K) (s) (no) x_lineClass x_lineLength x_methodGeneric x_parameterCount x_specialiser x_tokenKind x_tokenValue x_tokenCount x_objectClass x_objectHasSlot x_objectSlot x_frameMethod x_framePlace x_frameToken x_frameOperators x_frameArgument x_operatorKind x_operatorValue x_operatorLeft x_workedOut y_slots y_methodAt y_reached y_pc y_opsAt y_arguments y_operator y_got y_operands y_many y_broken y_chosen) (hn : no0 ≤ no) (hv : rl_val no v) (hwo : x_workedOut (cm_kv (cm_vx x_tokenKind) ((m, pl, pc, ar, (c, 1, 1, z) :: r) :: K)) = v) (hmu : cm_fi (cm_A x_parameterCount x_tokenKind x_tokenValue) s ((m, pl, pc, ar, (c, 1, 1, z) :: r) :: K) 1 ≤ μ + 1) (htt : tt + cm_fi (cm_A x_parameterCount x_tokenKind x_tokenValue) s ((m, pl, pc, ar, (c, 1, 1, z) :: r) :: K) 1 ≤ 4000) {q : Nat} (hq6 : 6 ≤ q) (hq8 : q ≤ 8) (ek : x_tokenKind c = nI q)
    (hY : ∀ post' : Int32 → SY → Prop, (∃ n9 n5, wY_deliver_5 (cm_Q post' n9) n5 v 1 (nI nc) (nI ns) (nI no) (nI nd) (nI (K.length + 1)) (nI (cm_ko cm_al ((m, pl, pc, ar, (c, 1, 1, z) :: r) :: K))) (nI (cm_kv cm_al ((m, pl, pc, ar, (c, 1, 1, z) :: r) :: K))) 0 (nI s) y_shownSteps (-9223372036854775808) x_lineClass x_lineLength y_has x_isSealed y_initial x_superDraft y_draftHas y_draftInitial y_lists y_listLength y_gone x_objectClass y_slots x_parameterCount x_methodGeneric y_single y_special x_tokenKind x_tokenCount x_tokenValue y_methodAt y_pc y_chosen y_many y_reached y_opsAt y_broken y_arguments y_operands y_operator y_got) → D post') : ∀ n', cm_fi (cm_A x_parameterCount x_tokenKind x_tokenValue) s ((m, pl, pc, ar, (c, 1, 1, z) :: r) :: K) 1 < n' + 1 → wX_call_23 (fun r u' => D (fun r' v' => r' = r ∧ i_Rel kk u' v')) (n' + 1) (nI tt) (nI nc) (nI ns) (nI no) (nI nd) (-3) (nI s) (-9223372036854775808) x_enterGeneric x_enterPlace (nI (K.length + 1)) (nI (cm_ko (cm_vx x_tokenKind) ((m, pl, pc, ar, (c, 1, 1, z) :: r) :: K))) (nI (cm_kv (cm_vx x_tokenKind) ((m, pl, pc, ar, (c, 1, 1, z) :: r) :: K) + 1)) x_lineClass x_lineLength x_isSealed x_classHasSlot x_classSlot x_superDraft x_objectClass x_objectHasSlot x_objectSlot x_parameterCount x_methodGeneric x_specialiser x_tokenKind x_tokenValue x_tokenCount x_argument x_rank x_orderPlace x_frameMethod x_framePlace x_frameToken x_frameOperators x_frameArgument x_operatorKind x_operatorValue x_operatorLeft x_workedOut := by
  have hvis : (cm_vx x_tokenKind) (c, 1, 1, z) = true := cm_vx_t (fun zz => by have z1 : x_tokenKind c = nI 10 := zz.1; rw [ek] at z1; have := bs_inj (by omega) (by omega) z1; omega)
  obtain ⟨gg, p, t, j, a1, a2, a3, a4, a5, a6, a7, a8, a9, a10, a11, a12, a13, a14, a15, a16, a17, a18⟩ := cm_top hC.2.2.2.2.2.1 h
  obtain ⟨k1, k2, k3, k4⟩ := cm_J_cnt h
  have hd := h.2.2.2.1
  have ho := h.1
  have ho20 := ho.1
  obtain ⟨x1, x2, x3, x4, x5, x6, x7, x8, x9⟩ := cm_item h hvis
  obtain ⟨y1, y2, y3, y4, y5, y7, y8, y9⟩ := cm_itemY h
  have hcj : c % 16 = j := by omega
  have hc400 : c < 400 := by omega
  rw [hcj] at y4
  have htk := a12 j a10
  rw [← a11] at htk
  have e3 : ((m, pl, pc, ar, (c, 1, 1, z) :: r) :: K).length = K.length + 1 := rfl
  have e4 : cm_kl (cm_A x_parameterCount x_tokenKind x_tokenValue) ((m, pl, pc, ar, (c, 1, 1, z) :: r) :: K) = cm_kl (cm_A x_parameterCount x_tokenKind x_tokenValue) K + (cm_lf (cm_A x_parameterCount x_tokenKind x_tokenValue) r + ((cm_A x_parameterCount x_tokenKind x_tokenValue) c - 1)) := rfl
  have kn1 : cm_ni (cm_vx x_tokenKind) r ≤ cm_ni cm_al r := cm_ni_le _ _
  have kn2 : cm_nv (cm_vx x_tokenKind) r ≤ cm_nv cm_al r := cm_nv_le _ _
  have kk1 : cm_ko (cm_vx x_tokenKind) K ≤ cm_ko cm_al K := cm_ko_le _ _
  have kk2 : cm_kv (cm_vx x_tokenKind) K ≤ cm_kv cm_al K := cm_kv_le _ _
  have eTX : x_frameToken K.length = nI pc := h.2.2.2.2.2.2.1.1.2.2.1
  unfold cm_fi at hmu htt
  intro n' hn'
  unfold cm_fi at hn'
  have hA : (cm_A x_parameterCount x_tokenKind x_tokenValue) c = 2 := by
    rw [cm_kind ek]
    have hs : q = 6 ∨ q = 7 ∨ q = 8 := by omega
    rcases hs with rfl | rfl | rfl
    · rfl
    · rfl
    · rfl
  rw [x9] at hwo
  have hx0 : x_workedOut (cm_kv (cm_vx x_tokenKind) K + cm_nv (cm_vx x_tokenKind) r) = z 0 := by
    have := x7 0 (by omega)
    rw [Nat.add_zero] at this
    exact this
  have hy0 : y_operands (cm_kv cm_al K + cm_nv cm_al r) = z 0 := by
    have := y7 0 (by omega)
    rw [Nat.add_zero] at this
    exact this
  have hz0 := a16 0 (by omega)
  have od1 : vp_updL y_operands ((cm_kv cm_al K + cm_nv cm_al r) + 1) v ((cm_kv cm_al K + cm_nv cm_al r) + 1) = v := pk_uLs
  have od0 : vp_updL y_operands ((cm_kv cm_al K + cm_nv cm_al r) + 1) v (cm_kv cm_al K + cm_nv cm_al r) = z 0 := by rw [pk_uLn (by omega)]; exact hy0
  have hw : ∀ a b : Int32, rl_val no (cm_int q a b) := by
    intro a b
    unfold cm_int
    by_cases z6 : q = 6
    · rw [bs_ct z6]; exact Or.inl (mk_int _)
    · rw [bs_cf z6]
      by_cases z7 : q = 7
      · rw [bs_ct z7]; exact Or.inl (mk_int _)
      · rw [bs_cf z7]
        by_cases z8 : b ≤ a
        · rw [bs_ct z8]; exact Or.inl (show (0 : Int64) = _ by decide)
        · rw [bs_cf z8]; exact Or.inl (show (1 : Int64) = _ by decide)
  rw [x8, x9]
  refine mx_cl_T (by omega) (fun P hP => mx_tk_app hd (by omega) (by omega) x1 (q := q) (w := x_tokenValue c) (by omega) (by omega) (by omega) (by rw [x4, ek]) (by rw [x6, hA]) x5 (mx_ap_int (b := (cm_kv (cm_vx x_tokenKind) K + cm_nv (cm_vx x_tokenKind) r)) hq6 hq8 (by omega) (fun hE => hP _ _ _ _ _ _ _ _ _ _ _ _ _ _ _ _ _ _ _ _ _ _ _ _ _ _ _ _ _ _ _ _ _ _ _ _ _ _ _ ?_) (fun i1 i2 => hP _ _ _ _ _ _ _ _ _ _ _ _ _ _ _ _ _ _ _ _ _ _ _ _ _ _ _ _ _ _ _ _ _ _ _ _ _ _ _ ?_)))
  · rw [hx0, hwo] at hE
    have hEy : ∀ post' n1, (∀ od2, cm_Q post' n1 (nI nc, nI ns, nI no, nI nd, nI (K.length + 1), nI (cm_ko cm_al K + cm_ni cm_al r), nI (cm_kv cm_al K + cm_nv cm_al r), 5, nI s, y_shownSteps, -9223372036854775808, x_lineClass, x_lineLength, y_has, x_isSealed, y_initial, x_superDraft, y_draftHas, y_draftInitial, y_lists, y_listLength, y_gone, x_objectClass, y_slots, x_parameterCount, x_methodGeneric, y_single, y_special, x_tokenKind, x_tokenCount, x_tokenValue, y_methodAt, y_pc, y_chosen, y_many, y_reached, y_opsAt, y_broken, y_arguments, od2, y_operator, upd y_got (cm_ko cm_al K + cm_ni cm_al r) (nI 2))) → D post' := by
      intro post' n1 hcl
      refine hY post' ⟨n1, 0 + 2, ?_⟩
      rw [y8]
      refine my_dl_item (n := 0) hd (by omega) (by omega) (by omega) (by omega) y1 y2 y4 y5 (fun P h0 h1 => ?_)
      rw [← a11, y9]
      refine my_cp_two (hh := (cm_kv cm_al K + cm_nv cm_al r)) hc400 (by omega) (g1 := 2) (by omega) pk_us hC.2.2.2.1 htk hA (q := q) (by omega) (by omega) ek (fun Q hQ => ?_)
      rw [od1]
      refine my_two (no := no) (n := 0) ho20 (by omega) (by omega) (fun zz => by omega) (by rw [od0]; exact hz0) (fun zz => by omega) (fun zz => by omega) (fun zz => by omega) (fun _ _ _ od2 => hQ _ (h1 _ _ _ _ _ _ 0 _ _ _ _ _ _ _ _ _ _ _ _ _ _ _ _ _ _ _ _ _ _ _ _ _ _ _ _ _ _ _ _ _ _ _ (cm_kv cm_al K + cm_nv cm_al r) (by omega) (my_dl_fault (by decide) (hcl od2)))) (fun _ _ i1 i2 => ?_) rfl
      rw [od0] at i1
      exact absurd ⟨i1, i2⟩ hE
    obtain ⟨n2, rfl⟩ : ∃ n2, n' = n2 + 1 := ⟨n' - 1, by omega⟩
    exact mx_cl_end (by decide) (hEy _ 1 (fun od2 => my_cl_fault (n := 0) (by decide) ⟨rfl, cm_done hC hn ho⟩))
  · rw [hx0] at i1
    rw [hwo] at i2
    rw [hx0, hwo]
    refine cm_T_val (od' := vp_updL (vp_updL y_operands ((cm_kv cm_al K + cm_nv cm_al r) + 1) v) (cm_kv cm_al K + cm_nv cm_al r) (cm_int q (z 0).toInt32 v.toInt32)) hC ihT h hn hA (hw _ _) (fun j hj => by rw [pk_uLn (by omega), pk_uLn (by omega)]) ho (by unfold cm_fi; omega) (by unfold cm_fi; omega) (fun post' he => ?_) n' (by unfold cm_fi; omega)
    obtain ⟨n1, n5, hdl⟩ := he
    cases n5 with
    | zero => exact hdl.elim
    | succ n6 =>
      refine hY post' ⟨n1, n6 + 2, ?_⟩
      rw [y8]
      refine my_dl_item (n := n6) hd (by omega) (by omega) (by omega) (by omega) y1 y2 y4 y5 (fun P h0 h1 => ?_)
      rw [← a11, y9]
      refine my_cp_two (hh := (cm_kv cm_al K + cm_nv cm_al r)) hc400 (by omega) (g1 := 2) (by omega) pk_us hC.2.2.2.1 htk hA (q := q) (by omega) (by omega) ek (fun Q hQ => ?_)
      rw [od1]
      refine my_two (no := no) (n := 0) ho20 (by omega) (by omega) (fun zz => by omega) (by rw [od0]; exact hz0) (fun zz => by omega) (fun zz => by omega) (fun zz => by omega) (fun _ _ hE => ?_) (fun _ _ _ _ => ?_) rfl
      · rw [od0] at hE
        exact absurd ⟨i1, i2⟩ hE
      · refine hQ _ (h1 _ _ _ _ _ _ 0 _ _ _ _ _ _ _ _ _ _ _ _ _ _ _ _ _ _ _ _ _ _ _ _ _ _ _ _ _ _ _ _ _ _ _ (cm_kv cm_al K + cm_nv cm_al r) (by omega) ?_)
        rw [pk_uLs, od0]
        exact hdl
end
