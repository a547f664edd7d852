/-! the simulation: a value taken -/
section
variable {x_classCount : Int32} {x_superCount : Int32} {x_objectCount : Int32} {x_draftSpecialCount : Int32} {x_state : Int32} {x_stepCount : Int32} {x_latestValue : Int64} {x_enterGeneric : Int32} {x_enterPlace : Int32} {x_frameCount : Int32} {x_operatorCount : Int32} {x_valueCount : Int32} {x_lineClass : Nat → Int32} {x_lineLength : Nat → Int32} {x_isSealed : Nat → Int32} {x_classHasSlot : Nat → Int32} {x_classSlot : Nat → Int32} {x_superDraft : Nat → Int32} {x_objectClass : Nat → Int32} {x_objectHasSlot : Nat → Int32} {x_objectSlot : Nat → Int64} {x_parameterCount : Nat → Int32} {x_methodGeneric : Nat → Int32} {x_specialiser : Nat → Int64} {x_tokenKind : Nat → Int32} {x_tokenValue : Nat → Int32} {x_tokenCount : Nat → Int32} {x_argument : Nat → Int64} {x_rank : Nat → Int32} {x_orderPlace : Nat → Int32} {x_frameMethod : Nat → Int32} {x_framePlace : Nat → Int32} {x_frameToken : Nat → Int32} {x_frameOperators : Nat → Int32} {x_frameArgument : Nat → Int64} {x_operatorKind : Nat → Int32} {x_operatorValue : Nat → Int32} {x_operatorLeft : Nat → Int32} {x_workedOut : Nat → Int64} {y_classes : Int32} {y_supers : Int32} {y_objects : Int32} {y_specials : Int32} {y_depth : Int32} {y_ops : Int32} {y_held : Int32} {y_fault : Int32} {y_steps : Int32} {y_shownSteps : Int32} {y_result : Int64} {y_line : Nat → Int32} {y_lineLength : Nat → Int32} {y_has : Nat → Int32} {y_sealed : Nat → Int32} {y_initial : Nat → Int32} {y_drafted : Nat → Int32} {y_draftHas : Nat → Int32} {y_draftInitial : Nat → Int32} {y_lists : Nat → Int32} {y_listLength : Nat → Int32} {y_gone : Nat → Int32} {y_classOfObject : Nat → Int32} {y_slots : Nat → Int64} {y_parameters : Nat → Int32} {y_generic : Nat → Int32} {y_single : Nat → Int32} {y_special : Nat → Int64} {y_kind : Nat → Int32} {y_tokens : Nat → Int32} {y_with : Nat → Int32} {y_methodAt : Nat → Int32} {y_pc : Nat → Int32} {y_chosen : Nat → Int32} {y_many : Nat → Int32} {y_reached : Nat → Int32} {y_opsAt : Nat → Int32} {y_broken : Nat → Int32} {y_arguments : Nat → Int64} {y_operands : Nat → Int64} {y_operator : Nat → Int32} {y_got : Nat → Int32} {D : (Int32 → SY → Prop) → Prop} {kk nc no0 ns nd : Nat}
theorem cm_item {x s no m pl pc c g n : Nat} {z : Nat → Int64} {ar : Nat → Int64} {r : List cm_It} {K : List cm_Fr} (h : cm_J nc (x) ((m, pl, pc, ar, (c, g, n, z) :: r)) (K) (s) (no) x_lineClass x_lineLength x_methodGeneric x_parameterCount x_specialiser x_tokenKind x_tokenValue x_tokenCount x_objectClass x_objectHasSlot x_objectSlot x_frameMethod x_framePlace x_frameToken x_frameOperators x_frameArgument x_operatorKind x_operatorValue x_operatorLeft x_workedOut y_slots y_methodAt y_reached y_pc y_opsAt y_arguments y_operator y_got y_operands y_many y_broken y_chosen) (hvis : (cm_vx x_tokenKind) (c, g, n, z) = true) : x_frameOperators K.length = nI (cm_ko (cm_vx x_tokenKind) K) ∧ x_frameMethod K.length = nI m ∧ x_frameToken K.length = nI pc ∧ x_operatorKind (cm_ko (cm_vx x_tokenKind) K + cm_ni (cm_vx x_tokenKind) r) = x_tokenKind c ∧ x_operatorValue (cm_ko (cm_vx x_tokenKind) K + cm_ni (cm_vx x_tokenKind) r) = x_tokenValue c ∧ x_operatorLeft (cm_ko (cm_vx x_tokenKind) K + cm_ni (cm_vx x_tokenKind) r) = nI ((cm_A x_parameterCount x_tokenKind x_tokenValue) c - g) ∧ (∀ q, q < n → x_workedOut (cm_kv (cm_vx x_tokenKind) K + cm_nv (cm_vx x_tokenKind) r + q) = z q) ∧ cm_ko (cm_vx x_tokenKind) ((m, pl, pc, ar, (c, g, n, z) :: r) :: K) = (cm_ko (cm_vx x_tokenKind) K + cm_ni (cm_vx x_tokenKind) r) + 1 ∧ cm_kv (cm_vx x_tokenKind) ((m, pl, pc, ar, (c, g, n, z) :: r) :: K) = cm_kv (cm_vx x_tokenKind) K + cm_nv (cm_vx x_tokenKind) r + n := by
  obtain ⟨⟨e1, e2, e3, e4, e5, ⟨e6, _⟩⟩, _⟩ := h.2.2.2.2.2.2.1
  obtain ⟨f1, f2, f3, f4⟩ := e6 hvis
  refine ⟨e4, e1, e3, f1, f2, f3, f4, ?_, ?_⟩
  · show cm_ko (cm_vx x_tokenKind) K + cm_ni (cm_vx x_tokenKind) ((c, g, n, z) :: r) = _
    rw [cm_ni_t hvis]; rfl
  · show cm_kv (cm_vx x_tokenKind) K + cm_nv (cm_vx x_tokenKind) ((c, g, n, z) :: r) = _
    rw [cm_nv_t hvis, Nat.add_assoc]
theorem cm_itemY {x s no m pl pc c g n : Nat} {z : Nat → Int64} {ar : Nat → Int64} {r : List cm_It} {K : List cm_Fr} (h : cm_J nc (x) ((m, pl, pc, ar, (c, g, n, z) :: r)) (K) (s) (no) x_lineClass x_lineLength x_methodGeneric x_parameterCount x_specialiser x_tokenKind x_tokenValue x_tokenCount x_objectClass x_objectHasSlot x_objectSlot x_frameMethod x_framePlace x_frameToken x_frameOperators x_frameArgument x_operatorKind x_operatorValue x_operatorLeft x_workedOut y_slots y_methodAt y_reached y_pc y_opsAt y_arguments y_operator y_got y_operands y_many y_broken y_chosen) : y_opsAt K.length = nI (cm_ko cm_al K) ∧ y_methodAt K.length = nI m ∧ y_pc K.length = nI pc ∧ y_operator (cm_ko cm_al K + cm_ni cm_al r) = nI (c % 16) ∧ y_got (cm_ko cm_al K + cm_ni cm_al r) = nI g ∧ (∀ q, q < n → y_operands (cm_kv cm_al K + cm_nv cm_al r + q) = z q) ∧ cm_ko cm_al ((m, pl, pc, ar, (c, g, n, z) :: r) :: K) = (cm_ko cm_al K + cm_ni cm_al r) + 1 ∧ cm_kv cm_al ((m, pl, pc, ar, (c, g, n, z) :: r) :: K) = cm_kv cm_al K + cm_nv cm_al r + n := by
  obtain ⟨⟨e1, e2, e3, e4, e5, ⟨e6, _⟩⟩, _⟩ := h.2.2.2.2.2.2.2.1
  obtain ⟨f1, f2, f3, f4⟩ := e6 rfl
  refine ⟨e4, e1, e3, f1, f2, f4, rfl, ?_⟩
  show cm_kv cm_al K + (cm_nv cm_al r + n) = _
  rw [Nat.add_assoc]
theorem cm_T_leave {μ no s tt m pl pc : Nat} {v : Int64} {ar : Nat → Int64} {K : List cm_Fr} (hC : cm_C nc no0 ns nd x_lineClass x_lineLength x_methodGeneric x_parameterCount x_specialiser x_tokenKind x_tokenValue x_tokenCount x_isSealed x_classHasSlot x_classSlot x_superDraft y_has y_initial y_draftHas y_draftInitial y_lists y_listLength y_gone y_single y_special y_shownSteps) (ihT : cm_PT D kk nc no0 ns nd x_lineClass x_lineLength x_methodGeneric x_parameterCount x_specialiser x_tokenKind x_tokenValue x_tokenCount x_isSealed x_classHasSlot x_classSlot x_superDraft y_has y_initial y_draftHas y_draftInitial y_lists y_listLength y_gone y_single y_special y_shownSteps μ) (h : cm_J nc (0) ((m, pl, pc, ar, ([] : List cm_It))) (K) (s) (no) x_lineClass x_lineLength x_methodGeneric x_parameterCount x_specialiser x_tokenKind x_tokenValue x_tokenCount x_objectClass x_objectHasSlot x_objectSlot x_frameMethod x_framePlace x_frameToken x_frameOperators x_frameArgument x_operatorKind x_operatorValue x_operatorLeft x_workedOut y_slots y_methodAt y_reached y_pc y_opsAt y_arguments y_operator y_got y_operands y_many y_broken y_chosen) (hn : no0 ≤ no) (hv : rl_val no v) (hwo : x_workedOut (cm_kv (cm_vx x_tokenKind) ((m, pl, pc, ar, ([] : List cm_It)) :: K)) = v) (hmu : cm_fi (cm_A x_parameterCount x_tokenKind x_tokenValue) s ((m, pl, pc, ar, ([] : List cm_It)) :: K) 1 ≤ μ + 1) (htt : tt + cm_fi (cm_A x_parameterCount x_tokenKind x_tokenValue) s ((m, pl, pc, ar, ([] : List cm_It)) :: K) 1 ≤ 4000)
    (hY : ∀ post' : Int32 → SY → Prop, (∃ n9 n5, wY_deliver_5 (cm_Q post' n9) n5 v 1 (nI nc) (nI ns) (nI no) (nI nd) (nI (K.length + 1)) (nI (cm_ko cm_al ((m, pl, pc, ar, ([] : List cm_It)) :: K))) (nI (cm_kv cm_al ((m, pl, pc, ar, ([] : List cm_It)) :: K))) 0 (nI s) y_shownSteps (-9223372036854775808) x_lineClass x_lineLength y_has x_isSealed y_initial x_superDraft y_draftHas y_draftInitial y_lists y_listLength y_gone x_objectClass y_slots x_parameterCount x_methodGeneric y_single y_special x_tokenKind x_tokenCount x_tokenValue y_methodAt y_pc y_chosen y_many y_reached y_opsAt y_broken y_arguments y_operands y_operator y_got) → D post') : ∀ n', cm_fi (cm_A x_parameterCount x_tokenKind x_tokenValue) s ((m, pl, pc, ar, ([] : List cm_It)) :: K) 1 < n' + 1 → wX_call_23 (fun r u' => D (fun r' v' => r' = r ∧ i_Rel kk u' v')) (n' + 1) (nI tt) (nI nc) (nI ns) (nI no) (nI nd) (-3) (nI s) (-9223372036854775808) x_enterGeneric x_enterPlace (nI (K.length + 1)) (nI (cm_ko (cm_vx x_tokenKind) ((m, pl, pc, ar, ([] : List cm_It)) :: K))) (nI (cm_kv (cm_vx x_tokenKind) ((m, pl, pc, ar, ([] : List cm_It)) :: K) + 1)) x_lineClass x_lineLength x_isSealed x_classHasSlot x_classSlot x_superDraft x_objectClass x_objectHasSlot x_objectSlot x_parameterCount x_methodGeneric x_specialiser x_tokenKind x_tokenValue x_tokenCount x_argument x_rank x_orderPlace x_frameMethod x_framePlace x_frameToken x_frameOperators x_frameArgument x_operatorKind x_operatorValue x_operatorLeft x_workedOut := by
  obtain ⟨k1, k2, k3, k4⟩ := cm_J_cnt h
  have hd := h.2.2.2.1
  have eOX : x_frameOperators K.length = nI (cm_ko (cm_vx x_tokenKind) K) := h.2.2.2.2.2.2.1.1.2.2.2.1
  have eOY : y_opsAt K.length = nI (cm_ko cm_al K) := h.2.2.2.2.2.2.2.1.1.2.2.2.1
  have q1 : cm_ko (cm_vx x_tokenKind) ((m, pl, pc, ar, ([] : List cm_It)) :: K) = cm_ko (cm_vx x_tokenKind) K := rfl
  have q2 : cm_kv (cm_vx x_tokenKind) ((m, pl, pc, ar, ([] : List cm_It)) :: K) = cm_kv (cm_vx x_tokenKind) K := rfl
  have q3 : cm_ko cm_al ((m, pl, pc, ar, ([] : List cm_It)) :: K) = cm_ko cm_al K := rfl
  have q4 : cm_kv cm_al ((m, pl, pc, ar, ([] : List cm_It)) :: K) = cm_kv cm_al K := rfl
  have e4 : cm_kl (cm_A x_parameterCount x_tokenKind x_tokenValue) ((m, pl, pc, ar, ([] : List cm_It)) :: K) = cm_kl (cm_A x_parameterCount x_tokenKind x_tokenValue) K := rfl
  have e3 : ((m, pl, pc, ar, ([] : List cm_It)) :: K).length = K.length + 1 := rfl
  unfold cm_fi at hmu htt
  intro n' hn'
  unfold cm_fi at hn'
  rw [q1, q2]
  rw [q2] at hwo
  rw [q3, q4] at hY
  cases K with
  | nil =>
    refine mx_cl_T (by omega) (fun P hP => mx_tk_leave hd (by omega) eOX (fun _ => hP _ _ _ _ _ _ _ _ _ _ _ _ _ _ _ _ _ _ _ _ _ _ _ _ _ _ _ _ _ _ _ _ _ _ _ _ _ _ _ ?_) (fun zz => absurd rfl zz))
    obtain ⟨n1, rfl⟩ : ∃ n1, n' = n1 + 1 := ⟨n' - 1, by omega⟩
    have hv0 : x_workedOut 0 = v := hwo
    rw [hv0]
    refine mx_cl_end (by decide) (hY _ ⟨1, 3, my_dl_leave hd eOY (my_dl_end ?_)⟩)
    exact my_cl_ok ⟨rfl, cm_done hC hn h.1⟩
  | cons f2 K2 =>
    have e5 : (f2 :: K2).length = K2.length + 1 := rfl
    refine mx_cl_T (by omega) (fun P hP => mx_tk_leave hd (by omega) eOX (fun zz => by omega) (fun _ => hP _ _ _ _ _ _ _ _ _ _ _ _ _ _ _ _ _ _ _ _ _ _ _ _ _ _ _ _ _ _ _ _ _ _ _ _ _ _ _ ?_))
    exact ihT no s (tt + 1) v f2 K2 _ _ _ _ _ _ _ _ _ _ _ _ x_argument x_rank x_orderPlace x_enterGeneric x_enterPlace _ _ _ _ _ _ _ _ _ _ _ _ (cm_mv_leave h) hn hv hwo (by unfold cm_fi; omega) (by unfold cm_fi; omega) (fun post' he => by
      obtain ⟨n1, n5, hdl⟩ := he
      exact hY post' ⟨n1, n5 + 1, my_dl_leave hd eOY hdl⟩) n' (by unfold cm_fi; omega)
theorem cm_T_more {μ no s tt m pl pc c g n : Nat} {z : Nat → Int64} {q : Nat} {v : Int64} {ar : Nat → Int64} {r : List cm_It} {K : List cm_Fr} (hC : cm_C nc no0 ns nd x_lineClass x_lineLength x_methodGeneric x_parameterCount x_specialiser x_tokenKind x_tokenValue x_tokenCount x_isSealed x_classHasSlot x_classSlot x_superDraft y_has y_initial y_draftHas y_draftInitial y_lists y_listLength y_gone y_single y_special y_shownSteps) (ihW : cm_PW D kk nc no0 ns nd x_lineClass x_lineLength x_methodGeneric x_parameterCount x_specialiser x_tokenKind x_tokenValue x_tokenCount x_isSealed x_classHasSlot x_classSlot x_superDraft y_has y_initial y_draftHas y_draftInitial y_lists y_listLength y_gone y_single y_special y_shownSteps μ) (h : cm_J nc (0) ((m, pl, pc, ar, (c, g, n, z) :: r)) (K) (s) (no) x_lineClass x_lineLength x_methodGeneric x_parameterCount x_specialiser x_tokenKind x_tokenValue x_tokenCount x_objectClass x_objectHasSlot x_objectSlot x_frameMethod x_framePlace x_frameToken x_frameOperators x_frameArgument x_operatorKind x_operatorValue x_operatorLeft x_workedOut y_slots y_methodAt y_reached y_pc y_opsAt y_arguments y_operator y_got y_operands y_many y_broken y_chosen) (hn : no0 ≤ no) (hv : rl_val no v) (hwo : x_workedOut (cm_kv (cm_vx x_tokenKind) ((m, pl, pc, ar, (c, g, n, z) :: r) :: K)) = v) (hmu : cm_fi (cm_A x_parameterCount x_tokenKind x_tokenValue) s ((m, pl, pc, ar, (c, g, n, z) :: r) :: K) 1 ≤ μ + 1) (htt : tt + cm_fi (cm_A x_parameterCount x_tokenKind x_tokenValue) s ((m, pl, pc, ar, (c, g, n, z) :: r) :: K) 1 ≤ 4000) (ek : x_tokenKind c = nI q) (hq : q ≤ 12) (h9 : q ≠ 9) (h10 : q ≠ 10) (hg : g + 1 < (cm_A x_parameterCount x_tokenKind x_tokenValue) c)
    (hY : ∀ post' : Int32 → SY → Prop, (∃ n9 n5, wY_deliver_5 (cm_Q post' n9) n5 v 1 (nI nc) (nI ns) (nI no) (nI nd) (nI (K.length + 1)) (nI (cm_ko cm_al ((m, pl, pc, ar, (c, g, n, z) :: r) :: K))) (nI (cm_kv cm_al ((m, pl, pc, ar, (c, g, n, z) :: r) :: K))) 0 (nI s) y_shownSteps (-9223372036854775808) x_lineClass x_lineLength y_has x_isSealed y_initial x_superDraft y_draftHas y_draftInitial y_lists y_listLength y_gone x_objectClass y_slots x_parameterCount x_methodGeneric y_single y_special x_tokenKind x_tokenCount x_tokenValue y_methodAt y_pc y_chosen y_many y_reached y_opsAt y_broken y_arguments y_operands y_operator y_got) → D post') : ∀ n', cm_fi (cm_A x_parameterCount x_tokenKind x_tokenValue) s ((m, pl, pc, ar, (c, g, n, z) :: r) :: K) 1 < n' + 1 → wX_call_23 (fun r u' => D (fun r' v' => r' = r ∧ i_Rel kk u' v')) (n' + 1) (nI tt) (nI nc) (nI ns) (nI no) (nI nd) (-3) (nI s) (-9223372036854775808) x_enterGeneric x_enterPlace (nI (K.length + 1)) (nI (cm_ko (cm_vx x_tokenKind) ((m, pl, pc, ar, (c, g, n, z) :: r) :: K))) (nI (cm_kv (cm_vx x_tokenKind) ((m, pl, pc, ar, (c, g, n, z) :: r) :: K) + 1)) x_lineClass x_lineLength x_isSealed x_classHasSlot x_classSlot x_superDraft x_objectClass x_objectHasSlot x_objectSlot x_parameterCount x_methodGeneric x_specialiser x_tokenKind x_tokenValue x_tokenCount x_argument x_rank x_orderPlace x_frameMethod x_framePlace x_frameToken x_frameOperators x_frameArgument x_operatorKind x_operatorValue x_operatorLeft x_workedOut := by
  have n9 : ¬ x_tokenKind c = 9 := by rw [ek]; exact fun zz => h9 (bs_inj (b := 9) (by omega) (by omega) zz)
  have n10 : ¬ x_tokenKind c = 10 := by rw [ek]; exact fun zz => h10 (bs_inj (b := 10) (by omega) (by omega) zz)
  obtain ⟨gg, p, t, j, a1, a2, a3, a4, a5, a6, a7, a8, a9, a10, a11, a12, a13, a14, a15, a16, a17, a18⟩ := cm_top hC.2.2.2.2.2.1 h
  obtain ⟨k1, k2, k3, k4⟩ := cm_J_cnt h
  have hd := h.2.2.2.1
  have ho := h.1
  have ho20 := ho.1
  obtain ⟨x1, x2, x3, x4, x5, x6, x7, x8, x9⟩ := cm_item h (cm_vx_t (fun zz => n10 zz.1))
  obtain ⟨y1, y2, y3, y4, y5, y7, y8, y9⟩ := cm_itemY h
  have hcj : c % 16 = j := by omega
  have hc400 : c < 400 := by omega
  rw [hcj] at y4
  have htk := a12 j a10
  rw [← a11] at htk
  have e3 : ((m, pl, pc, ar, (c, g, n, z) :: r) :: K).length = K.length + 1 := rfl
  have e4 : cm_kl (cm_A x_parameterCount x_tokenKind x_tokenValue) ((m, pl, pc, ar, (c, g, n, z) :: r) :: K) = cm_kl (cm_A x_parameterCount x_tokenKind x_tokenValue) K + (cm_lf (cm_A x_parameterCount x_tokenKind x_tokenValue) r + ((cm_A x_parameterCount x_tokenKind x_tokenValue) c - g)) := rfl
  have kn1 : cm_ni (cm_vx x_tokenKind) r ≤ cm_ni cm_al r := cm_ni_le _ _
  have kn2 : cm_nv (cm_vx x_tokenKind) r ≤ cm_nv cm_al r := cm_nv_le _ _
  have kk1 : cm_ko (cm_vx x_tokenKind) K ≤ cm_ko cm_al K := cm_ko_le _ _
  have kk2 : cm_kv (cm_vx x_tokenKind) K ≤ cm_kv cm_al K := cm_kv_le _ _
  unfold cm_fi at hmu htt
  intro n' hn'
  unfold cm_fi at hn'
  rw [x9] at hwo
  have hA3 : (cm_A x_parameterCount x_tokenKind x_tokenValue) c ≤ 3 := pa_ar3 hC.2.2.2.1 htk
  have hJ := cm_mv_more h n9 n10 hg hv (by rw [x9]; exact hwo) (od' := vp_updL y_operands (cm_kv cm_al ((m, pl, pc, ar, (c, g, n, z) :: r) :: K)) v) pk_uLs (fun j hj => pk_uLn (by omega))
  have e1 : cm_kl (cm_A x_parameterCount x_tokenKind x_tokenValue) ((m, pl, pc, ar, (c, g + 1, n + 1, fun q => if q = n then v else z q) :: r) :: K) = cm_kl (cm_A x_parameterCount x_tokenKind x_tokenValue) K + (cm_lf (cm_A x_parameterCount x_tokenKind x_tokenValue) r + ((cm_A x_parameterCount x_tokenKind x_tokenValue) c - (g + 1))) := rfl
  have e2 : ((m, pl, pc, ar, (c, g + 1, n + 1, fun q => if q = n then v else z q) :: r) :: K).length = K.length + 1 := rfl
  have hv1 : (cm_vx x_tokenKind) (c, g + 1, n + 1, fun q => if q = n then v else z q) = true := cm_vx_t (fun zz => n10 zz.1)
  obtain ⟨_, _, _, _, _, _, _, w8, w9⟩ := cm_item hJ hv1
  obtain ⟨_, _, _, _, _, _, w10, w11⟩ := cm_itemY hJ
  rw [x8, x9]
  refine mx_cl_T (by omega) (fun P hP => mx_tk_more hd (by omega) (by omega) x1 (q := q) (lf := (cm_A x_parameterCount x_tokenKind x_tokenValue) c - (g + 1)) hq h9 h10 (by omega) (by omega) (by rw [x4, ek]) (by rw [x6]; exact congrArg nI (by omega)) (hP _ _ _ _ _ _ _ _ _ _ _ _ _ _ _ _ _ _ _ _ _ _ _ _ _ _ _ _ _ _ _ _ _ _ _ _ _ _ _ ?_))
  have hr := ihW no s (tt + 1) (m, pl, pc, ar, (c, g + 1, n + 1, fun q => if q = n then v else z q) :: r) K _ _ _ _ _ _ _ _ _ _ _ _ x_argument x_rank x_orderPlace x_enterGeneric x_enterPlace _ _ _ _ _ _ _ _ _ _ _ _ hJ hn (by unfold cm_fi; omega) (by unfold cm_fi; omega) (fun post' he => by
    obtain ⟨n1, hcl⟩ := he
    rw [w10, w11, y9] at hcl
    refine hY post' ⟨n1, 2, ?_⟩
    rw [y8]
    refine my_dl_item (n := 0) hd (by omega) (by omega) (by omega) (by omega) y1 y2 y4 y5 (fun P h0 h1 => ?_)
    rw [← a11]
    refine my_cp_more hc400 (by omega) (g1 := g + 1) (by omega) pk_us hC.2.2.2.1 htk ek hq h9 hg (h0 _ ?_)
    rw [y9]
    exact hcl) n' (by unfold cm_fi; omega)
  rw [w8, w9] at hr
  exact hr
theorem cm_T_seq0 {μ no s tt m pl pc c : Nat} {z : Nat → Int64} {v : Int64} {ar : Nat → Int64} {r : List cm_It} {K : List cm_Fr} (hC : cm_C nc no0 ns nd x_lineClass x_lineLength x_methodGeneric x_parameterCount x_specialiser x_tokenKind x_tokenValue x_tokenCount x_isSealed x_classHasSlot x_classSlot x_superDraft y_has y_initial y_draftHas y_draftInitial y_lists y_listLength y_gone y_single y_special y_shownSteps) (ihW : cm_PW D kk nc no0 ns nd x_lineClass x_lineLength x_methodGeneric x_parameterCount x_specialiser x_tokenKind x_tokenValue x_tokenCount x_isSealed x_classHasSlot x_classSlot x_superDraft y_has y_initial y_draftHas y_draftInitial y_lists y_listLength y_gone y_single y_special y_shownSteps μ) (h : cm_J nc (0) ((m, pl, pc, ar, (c, 0, 0, z) :: r)) (K) (s) (no) x_lineClass x_lineLength x_methodGeneric x_parameterCount x_specialiser x_tokenKind x_tokenValue x_tokenCount x_objectClass x_objectHasSlot x_objectSlot x_frameMethod x_framePlace x_frameToken x_frameOperators x_frameArgument x_operatorKind x_operatorValue x_operatorLeft x_workedOut y_slots y_methodAt y_reached y_pc y_opsAt y_arguments y_operator y_got y_operands y_many y_broken y_chosen) (hn : no0 ≤ no) (hv : rl_val no v) (hwo : x_workedOut (cm_kv (cm_vx x_tokenKind) ((m, pl, pc, ar, (c, 0, 0, z) :: r) :: K)) = v) (hmu : cm_fi (cm_A x_parameterCount x_tokenKind x_tokenValue) s ((m, pl, pc, ar, (c, 0, 0, z) :: r) :: K) 1 ≤ μ + 1) (htt : tt + cm_fi (cm_A x_parameterCount x_tokenKind x_tokenValue) s ((m, pl, pc, ar, (c, 0, 0, z) :: r) :: K) 1 ≤ 4000) (ek : x_tokenKind c = nI 10)
    (hY : ∀ post' : Int32 → SY → Prop, (∃ n9 n5, wY_deliver_5 (cm_Q post' n9) n5 v 1 (nI nc) (nI ns) (nI no) (nI nd) (nI (K.length + 1)) (nI (cm_ko cm_al ((m, pl, pc, ar, (c, 0, 0, z) :: r) :: K))) (nI (cm_kv cm_al ((m, pl, pc, ar, (c, 0, 0, z) :: r) :: K))) 0 (nI s) y_shownSteps (-9223372036854775808) x_lineClass x_lineLength y_has x_isSealed y_initial x_superDraft y_draftHas y_draftInitial y_lists y_listLength y_gone x_objectClass y_slots x_parameterCount x_methodGeneric y_single y_special x_tokenKind x_tokenCount x_tokenValue y_methodAt y_pc y_chosen y_many y_reached y_opsAt y_broken y_arguments y_operands y_operator y_got) → D post') : ∀ n', cm_fi (cm_A x_parameterCount x_tokenKind x_tokenValue) s ((m, pl, pc, ar, (c, 0, 0, z) :: r) :: K) 1 < n' + 1 → wX_call_23 (fun r u' => D (fun r' v' => r' = r ∧ i_Rel kk u' v')) (n' + 1) (nI tt) (nI nc) (nI ns) (nI no) (nI nd) (-3) (nI s) (-9223372036854775808) x_enterGeneric x_enterPlace (nI (K.length + 1)) (nI (cm_ko (cm_vx x_tokenKind) ((m, pl, pc, ar, (c, 0, 0, z) :: r) :: K))) (nI (cm_kv (cm_vx x_tokenKind) ((m, pl, pc, ar, (c, 0, 0, z) :: r) :: K) + 1)) x_lineClass x_lineLength x_isSealed x_classHasSlot x_classSlot x_superDraft x_objectClass x_objectHasSlot x_objectSlot x_parameterCount x_methodGeneric x_specialiser x_tokenKind x_tokenValue x_tokenCount x_argument x_rank x_orderPlace x_frameMethod x_framePlace x_frameToken x_frameOperators x_frameArgument x_operatorKind x_operatorValue x_operatorLeft x_workedOut := by
  obtain ⟨gg, p, t, j, a1, a2, a3, a4, a5, a6, a7, a8, a9, a10, a11, a12, a13, a14, a15, a16, a17, a18⟩ := cm_top hC.2.2.2.2.2.1 h
  obtain ⟨k1, k2, k3, k4⟩ := cm_J_cnt h
  have hd := h.2.2.2.1
  have ho := h.1
  have ho20 := ho.1
  obtain ⟨x1, x2, x3, x4, x5, x6, x7, x8, x9⟩ := cm_item h (cm_vx_t (fun zz => absurd zz.2 (show ¬ (0 : Nat) = 1 by decide)))
  obtain ⟨y1, y2, y3, y4, y5, y7, y8, y9⟩ := cm_itemY h
  have hcj : c % 16 = j := by omega
  have hc400 : c < 400 := by omega
  rw [hcj] at y4
  have htk := a12 j a10
  rw [← a11] at htk
  have e3 : ((m, pl, pc, ar, (c, 0, 0, z) :: r) :: K).length = K.length + 1 := rfl
  have e4 : cm_kl (cm_A x_parameterCount x_tokenKind x_tokenValue) ((m, pl, pc, ar, (c, 0, 0, z) :: r) :: K) = cm_kl (cm_A x_parameterCount x_tokenKind x_tokenValue) K + (cm_lf (cm_A x_parameterCount x_tokenKind x_tokenValue) r + ((cm_A x_parameterCount x_tokenKind x_tokenValue) c - 0)) := rfl
  have kn1 : cm_ni (cm_vx x_tokenKind) r ≤ cm_ni cm_al r := cm_ni_le _ _
  have kn2 : cm_nv (cm_vx x_tokenKind) r ≤ cm_nv cm_al r := cm_nv_le _ _
  have kk1 : cm_ko (cm_vx x_tokenKind) K ≤ cm_ko cm_al K := cm_ko_le _ _
  have kk2 : cm_kv (cm_vx x_tokenKind) K ≤ cm_kv cm_al K := cm_kv_le _ _
  unfold cm_fi at hmu htt
  intro n' hn'
  unfold cm_fi at hn'
  rw [x9] at hwo
  have hA : (cm_A x_parameterCount x_tokenKind x_tokenValue) c = 2 := by rw [cm_kind ek]; rfl
  have hJ := cm_mv_seq h ek hA hv (od' := vp_updL y_operands (cm_kv cm_al ((m, pl, pc, ar, (c, 0, 0, z) :: r) :: K)) v) (oL' := upd x_operatorLeft (cm_ko (cm_vx x_tokenKind) K + cm_ni (cm_vx x_tokenKind) r) (nI 1)) pk_uLs (fun j hj => pk_uLn (by omega)) (fun j hj => pk_un (by omega))
  have hv1 : ¬ (cm_vx x_tokenKind) (c, 1, 1, fun _ => v) = true := cm_vx_f ⟨ek, rfl⟩
  have w8 : cm_ko (cm_vx x_tokenKind) ((m, pl, pc, ar, (c, 1, 1, fun _ => v) :: r) :: K) = (cm_ko (cm_vx x_tokenKind) K + cm_ni (cm_vx x_tokenKind) r) := by
    show cm_ko (cm_vx x_tokenKind) K + cm_ni (cm_vx x_tokenKind) ((c, 1, 1, fun _ => v) :: r) = _
    rw [cm_ni_f hv1]
  have w9 : cm_kv (cm_vx x_tokenKind) ((m, pl, pc, ar, (c, 1, 1, fun _ => v) :: r) :: K) = cm_kv (cm_vx x_tokenKind) K + cm_nv (cm_vx x_tokenKind) r := by
    show cm_kv (cm_vx x_tokenKind) K + cm_nv (cm_vx x_tokenKind) ((c, 1, 1, fun _ => v) :: r) = _
    rw [cm_nv_f hv1]
  obtain ⟨_, _, _, _, _, _, w10, w11⟩ := cm_itemY hJ
  have e1 : cm_kl (cm_A x_parameterCount x_tokenKind x_tokenValue) ((m, pl, pc, ar, (c, 1, 1, fun _ => v) :: r) :: K) = cm_kl (cm_A x_parameterCount x_tokenKind x_tokenValue) K + (cm_lf (cm_A x_parameterCount x_tokenKind x_tokenValue) r + ((cm_A x_parameterCount x_tokenKind x_tokenValue) c - 1)) := rfl
  have e2 : ((m, pl, pc, ar, (c, 1, 1, fun _ => v) :: r) :: K).length = K.length + 1 := rfl
  rw [x8, x9]
  refine mx_cl_T (by omega) (fun P hP => mx_tk_seq hd (by omega) (by omega) x1 (lf := 1) (vc := cm_kv (cm_vx x_tokenKind) K + cm_nv (cm_vx x_tokenKind) r + 0) (by rw [x4, ek]) (by rw [x6, hA]) (hP _ _ _ _ _ _ _ _ _ _ _ _ _ _ _ _ _ _ _ _ _ _ _ _ _ _ _ _ _ _ _ _ _ _ _ _ _ _ _ ?_))
  have hr := ihW no s (tt + 1) (m, pl, pc, ar, (c, 1, 1, fun _ => v) :: r) K _ _ _ _ _ _ _ _ _ _ _ _ x_argument x_rank x_orderPlace x_enterGeneric x_enterPlace _ _ _ _ _ _ _ _ _ _ _ _ hJ hn (by unfold cm_fi; omega) (by unfold cm_fi; omega) (fun post' he => by
    obtain ⟨n1, hcl⟩ := he
    rw [w10, w11] at hcl
    refine hY post' ⟨n1, 2, ?_⟩
    rw [y8]
    refine my_dl_item (n := 0) hd (by omega) (by omega) (by omega) (by omega) y1 y2 y4 y5 (fun P h0 h1 => ?_)
    rw [← a11]
    refine my_cp_more hc400 (by omega) (g1 := 1) (by omega) pk_us hC.2.2.2.1 htk ek (by omega) (by omega) (by show 1 < (cm_A x_parameterCount x_tokenKind x_tokenValue) c; omega) (h0 _ ?_)
    rw [y9]
    exact hcl) n' (by unfold cm_fi; omega)
  rw [w8, w9] at hr
  exact hr
end
