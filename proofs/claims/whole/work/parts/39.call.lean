/-! the simulation: CALL; all together -/
section
variable {x_classCount : Int32} {x_superCount : Int32} {x_objectCount : Int32} {x_draftSpecialCount : Int32} {x_state : Int32} {x_stepCount : Int32} {x_latestValue : Int64} {x_enterGeneric : Int32} {x_enterPlace : Int32} {x_frameCount : Int32} {x_operatorCount : Int32} {x_valueCount : Int32} {x_lineClass : Nat → Int32} {x_lineLength : Nat → Int32} {x_isSealed : Nat → Int32} {x_classHasSlot : Nat → Int32} {x_classSlot : Nat → Int32} {x_superDraft : Nat → Int32} {x_objectClass : Nat → Int32} {x_objectHasSlot : Nat → Int32} {x_objectSlot : Nat → Int64} {x_parameterCount : Nat → Int32} {x_methodGeneric : Nat → Int32} {x_specialiser : Nat → Int64} {x_tokenKind : Nat → Int32} {x_tokenValue : Nat → Int32} {x_tokenCount : Nat → Int32} {x_argument : Nat → Int64} {x_rank : Nat → Int32} {x_orderPlace : Nat → Int32} {x_frameMethod : Nat → Int32} {x_framePlace : Nat → Int32} {x_frameToken : Nat → Int32} {x_frameOperators : Nat → Int32} {x_frameArgument : Nat → Int64} {x_operatorKind : Nat → Int32} {x_operatorValue : Nat → Int32} {x_operatorLeft : Nat → Int32} {x_workedOut : Nat → Int64} {y_classes : Int32} {y_supers : Int32} {y_objects : Int32} {y_specials : Int32} {y_depth : Int32} {y_ops : Int32} {y_held : Int32} {y_fault : Int32} {y_steps : Int32} {y_shownSteps : Int32} {y_result : Int64} {y_line : Nat → Int32} {y_lineLength : Nat → Int32} {y_has : Nat → Int32} {y_sealed : Nat → Int32} {y_initial : Nat → Int32} {y_drafted : Nat → Int32} {y_draftHas : Nat → Int32} {y_draftInitial : Nat → Int32} {y_lists : Nat → Int32} {y_listLength : Nat → Int32} {y_gone : Nat → Int32} {y_classOfObject : Nat → Int32} {y_slots : Nat → Int64} {y_parameters : Nat → Int32} {y_generic : Nat → Int32} {y_single : Nat → Int32} {y_special : Nat → Int64} {y_kind : Nat → Int32} {y_tokens : Nat → Int32} {y_with : Nat → Int32} {y_methodAt : Nat → Int32} {y_pc : Nat → Int32} {y_chosen : Nat → Int32} {y_many : Nat → Int32} {y_reached : Nat → Int32} {y_opsAt : Nat → Int32} {y_broken : Nat → Int32} {y_arguments : Nat → Int64} {y_operands : Nat → Int64} {y_operator : Nat → Int32} {y_got : Nat → Int32} {D : (Int32 → SY → Prop) → Prop} {kk nc no0 ns nd : Nat}
theorem cm_T_call {μ no s tt m pl pc c g n : Nat} {z : Nat → Int64} {v : Int64} {ar : Nat → Int64} {r : List cm_It} {K : List cm_Fr} (hC : cm_C nc no0 ns nd x_lineClass x_lineLength x_methodGeneric x_parameterCount x_specialiser x_tokenKind x_tokenValue x_tokenCount x_isSealed x_classHasSlot x_classSlot x_superDraft y_has y_initial y_draftHas y_draftInitial y_lists y_listLength y_gone y_single y_special y_shownSteps) (ihW : cm_PW D kk nc no0 ns nd x_lineClass x_lineLength x_methodGeneric x_parameterCount x_specialiser x_tokenKind x_tokenValue x_tokenCount x_isSealed x_classHasSlot x_classSlot x_superDraft y_has y_initial y_draftHas y_draftInitial y_lists y_listLength y_gone y_single y_special y_shownSteps μ) (h : cm_J nc (0) ((m, pl, pc, ar, (c, g, n, z) :: r)) (K) (s) (no) x_lineClass x_lineLength x_methodGeneric x_parameterCount x_specialiser x_tokenKind x_tokenValue x_tokenCount x_objectClass x_objectHasSlot x_objectSlot x_frameMethod x_framePlace x_frameToken x_frameOperators x_frameArgument x_operatorKind x_operatorValue x_operatorLeft x_workedOut y_slots y_methodAt y_reached y_pc y_opsAt y_arguments y_operator y_got y_operands y_many y_broken y_chosen) (hn : no0 ≤ no) (hv : rl_val no v) (hwo : x_workedOut (cm_kv (cm_vx x_tokenKind) ((m, pl, pc, ar, (c, g, n, z) :: r) :: K)) = v) (hmu : cm_fi (cm_A x_parameterCount x_tokenKind x_tokenValue) s ((m, pl, pc, ar, (c, g, n, z) :: r) :: K) 1 ≤ μ + 1) (htt : tt + cm_fi (cm_A x_parameterCount x_tokenKind x_tokenValue) s ((m, pl, pc, ar, (c, g, n, z) :: r) :: K) 1 ≤ 4000) {g2 p2 : Nat} (hg2 : g2 < 5) (hp21 : 1 ≤ p2) (hp23 : p2 ≤ 3) (ep2 : x_parameterCount g2 = nI p2) (ek : x_tokenKind c = nI 3) (ew : x_tokenValue c = nI g2) (hA : (cm_A x_parameterCount x_tokenKind x_tokenValue) c = p2) (hgp : g + 1 = p2)
    (hY : ∀ post' : Int32 → SY → Prop, (∃ n9 n5, wY_deliver_5 (cm_Q post' n9) n5 v 1 (nI nc) (nI ns) (nI no) (nI nd) (nI (K.length + 1)) (nI (cm_ko cm_al ((m, pl, pc, ar, (c, g, n, z) :: r) :: K))) (nI (cm_kv cm_al ((m, pl, pc, ar, (c, g, n, z) :: r) :: K))) 0 (nI s) y_shownSteps (-9223372036854775808) x_lineClass x_lineLength y_has x_isSealed y_initial x_superDraft y_draftHas y_draftInitial y_lists y_listLength y_gone x_objectClass y_slots x_parameterCount x_methodGeneric y_single y_special x_tokenKind x_tokenCount x_tokenValue y_methodAt y_pc y_chosen y_many y_reached y_opsAt y_broken y_arguments y_operands y_operator y_got) → D post') : ∀ n', cm_fi (cm_A x_parameterCount x_tokenKind x_tokenValue) s ((m, pl, pc, ar, (c, g, n, z) :: r) :: K) 1 < n' + 1 → wX_call_23 (fun r u' => D (fun r' v' => r' = r ∧ i_Rel kk u' v')) (n' + 1) (nI tt) (nI nc) (nI ns) (nI no) (nI nd) (-3) (nI s) (-9223372036854775808) x_enterGeneric x_enterPlace (nI (K.length + 1)) (nI (cm_ko (cm_vx x_tokenKind) ((m, pl, pc, ar, (c, g, n, z) :: r) :: K))) (nI (cm_kv (cm_vx x_tokenKind) ((m, pl, pc, ar, (c, g, n, z) :: r) :: K) + 1)) x_lineClass x_lineLength x_isSealed x_classHasSlot x_classSlot x_superDraft x_objectClass x_objectHasSlot x_objectSlot x_parameterCount x_methodGeneric x_specialiser x_tokenKind x_tokenValue x_tokenCount x_argument x_rank x_orderPlace x_frameMethod x_framePlace x_frameToken x_frameOperators x_frameArgument x_operatorKind x_operatorValue x_operatorLeft x_workedOut := by
  obtain ⟨gg, p, t, j, a1, a2, a3, a4, a5, a6, a7, a8, a9, a10, a11, a12, a13, a14, a15, a16, a17, a18⟩ := cm_top hC.2.2.2.2.2.1 h
  obtain ⟨k1, k2, k3, k4⟩ := cm_J_cnt h
  have hd := h.2.2.2.1
  have ho := h.1
  have ho20 := ho.1
  obtain ⟨x1, x2, x3, x4, x5, x6, x7, x8, x9⟩ := cm_item h (cm_vx_t (fun zz => by have z1 : x_tokenKind c = 10 := zz.1; rw [ek] at z1; exact absurd z1 (by decide)))
  obtain ⟨y1, y2, y3, y4, y5, y7, y8, y9⟩ := cm_itemY h
  have hcj : c % 16 = j := by omega
  have hc400 : c < 400 := by omega
  rw [hcj] at y4
  have htk := a12 j a10
  rw [← a11] at htk
  have e3 : ((m, pl, pc, ar, (c, g, n, z) :: r) :: K).length = K.length + 1 := rfl
  have e4 : cm_kl (cm_A x_parameterCount x_tokenKind x_tokenValue) ((m, pl, pc, ar, (c, g, n, z) :: r) :: K) = cm_kl (cm_A x_parameterCount x_tokenKind x_tokenValue) K + (cm_lf (cm_A x_parameterCount x_tokenKind x_tokenValue) r + ((cm_A x_parameterCount x_tokenKind x_tokenValue) c - g)) := rfl
  have kn1 : cm_ni (cm_vx x_tokenKind) r ≤ cm_ni cm_al r := cm_ni_le _ _
  have kn2 : cm_nv (cm_vx x_tokenKind) r ≤ cm_nv cm_al r := cm_nv_le _ _
  have kk1 : cm_ko (cm_vx x_tokenKind) K ≤ cm_ko cm_al K := cm_ko_le _ _
  have kk2 : cm_kv (cm_vx x_tokenKind) K ≤ cm_kv cm_al K := cm_kv_le _ _
  have eTX : x_frameToken K.length = nI pc := h.2.2.2.2.2.2.1.1.2.2.1
  unfold cm_fi at hmu htt
  intro n' hn'
  unfold cm_fi at hn'
  have eng : n = g := a15 (by rw [ek]; decide)
  rw [x9] at hwo
  have har : ∀ q, q < p2 → x_workedOut ((cm_kv (cm_vx x_tokenKind) K + cm_nv (cm_vx x_tokenKind) r) + q) = (if q = n then v else z q) := by
    intro q hq
    by_cases e : q = n
    · rw [if_pos e, e]; exact hwo
    · rw [if_neg e]; exact x7 q (by omega)
  have hay : ∀ q, q < p2 → vp_updL y_operands ((cm_kv cm_al K + cm_nv cm_al r) + n) v ((cm_kv cm_al K + cm_nv cm_al r) + q) = (if q = n then v else z q) := by
    intro q hq
    by_cases e : q = n
    · rw [if_pos e, e, pk_uLs]
    · rw [if_neg e, pk_uLn (by omega)]; exact y7 q (by omega)
  have hvv : ∀ q, q < p2 → rl_val no (if q = n then v else z q) := by
    intro q hq
    by_cases e : q = n
    · rw [if_pos e]; exact hv
    · rw [if_neg e]; exact a16 q (by omega)
  rw [hA, show cm_nd (cm_A x_parameterCount x_tokenKind x_tokenValue) r + (p2 - g - 1) + 0 = cm_nd (cm_A x_parameterCount x_tokenKind x_tokenValue) r + 0 by omega] at a17
  have p1 : cm_kl (cm_A x_parameterCount x_tokenKind x_tokenValue) ((m, pl, pc, ar, r) :: K) = cm_kl (cm_A x_parameterCount x_tokenKind x_tokenValue) K + cm_lf (cm_A x_parameterCount x_tokenKind x_tokenValue) r := rfl
  have p2' : ((m, pl, pc, ar, r) :: K).length = K.length + 1 := rfl
  have hJ := cm_mv_pop (x := 0) (pc' := pc) (fT' := x_frameToken) (pC' := y_pc) (oL' := upd x_operatorLeft (cm_ko (cm_vx x_tokenKind) K + cm_ni (cm_vx x_tokenKind) r) (nI 0)) (wo' := x_workedOut) (go' := upd y_got (cm_ko cm_al K + cm_ni cm_al r) (nI (g + 1))) (od' := vp_updL y_operands ((cm_kv cm_al K + cm_nv cm_al r) + n) v) h (by omega) a8 a5 a9 a17 eTX y3 (fun _ _ => rfl) (fun _ _ => rfl) (fun j hj => pk_uLn (by omega)) (fun _ _ => rfl) (fun j hj => pk_un (by omega)) (fun j hj => pk_un (by omega))
  have hV := cm_JV hJ
  rw [x8, x9, show (cm_kv (cm_vx x_tokenKind) K + cm_nv (cm_vx x_tokenKind) r) + n + 1 = (cm_kv (cm_vx x_tokenKind) K + cm_nv (cm_vx x_tokenKind) r) + p2 by omega]
  refine mx_cl_T (by omega) (fun P hP => mx_tk_app hd (by omega) (by omega) x1 (q := 3) (w := nI g2) (by omega) (by omega) (by omega) (by rw [x4, ek]) (by rw [x6, hA]; exact congrArg nI (by omega)) (by rw [x5, ew]) (mx_ap_call (b := (cm_kv (cm_vx x_tokenKind) K + cm_nv (cm_vx x_tokenKind) r)) hg2 hp23 (by omega) ep2 (fun ag hag => hP _ _ _ _ _ _ _ _ _ _ _ _ _ _ _ _ _ _ _ _ _ _ _ _ _ _ _ _ _ _ _ _ _ _ _ _ _ _ _ ?_)))
  refine cm_E_call (y_shownSteps := y_shownSteps) (y_has := y_has) (y_initial := y_initial) (y_draftHas := y_draftHas) (y_draftInitial := y_draftInitial) (y_lists := y_lists) (y_listLength := y_listLength) (y_gone := y_gone) (y_slots := y_slots) (y_single := y_single) (y_special := y_special) (y_methodAt := y_methodAt) (y_pc := y_pc) (y_chosen := y_chosen) (y_many := y_many) (y_reached := y_reached) (y_opsAt := y_opsAt) (y_broken := y_broken) (y_arguments := y_arguments) (y_operands := vp_updL y_operands ((cm_kv cm_al K + cm_nv cm_al r) + n) v) (y_operator := y_operator) (y_got := upd y_got (cm_ko cm_al K + cm_ni cm_al r) (nI (g + 1))) (K := (m, pl, pc, ar, r) :: K) (tt := tt + 1) (ar := fun q => if q = n then v else z q) (ag' := cm_ag y_arguments (vp_updL y_operands ((cm_kv cm_al K + cm_nv cm_al r) + n) v) (K.length + 1) (cm_kv cm_al K + cm_nv cm_al r) p2) hC ihW hV hn hg2 hp21 hp23 ep2 hvv (fun q hq => by rw [hag q hq, har q hq]) (fun q hq => ?_) (fun j hj => cm_ag_n hj) (by unfold cm_fi; omega) (by unfold cm_fi; omega) (fun post' he => ?_) n' (by unfold cm_fi; omega)
  · rw [p2', cm_ag_k hp23 hq, hay q hq]
  · obtain ⟨n1, hen⟩ := he
    refine hY post' ⟨n1, 0 + 2, ?_⟩
    rw [y8]
    refine my_dl_item (n := 0) hd (by omega) (by omega) (by omega) (by omega) y1 y2 y4 y5 (fun P h0 h1 => ?_)
    rw [← a11, y9, show (cm_kv cm_al K + cm_nv cm_al r) + n + 1 = (cm_kv cm_al K + cm_nv cm_al r) + p2 by omega]
    refine my_cp_call (hh := (cm_kv cm_al K + cm_nv cm_al r)) (d := K.length + 1) (g := g2) (p := p2) hc400 (by omega) hp21 hp23 (by rw [hgp]; exact pk_us) hC.2.2.2.1 htk hA (by omega) (by omega) ek ew (fun Q hQ => ?_)
    exact hen Q (fun u hu => hQ u (h0 u hu))
theorem cm_Tstep {μ : Nat} (hC : cm_C nc no0 ns nd x_lineClass x_lineLength x_methodGeneric x_parameterCount x_specialiser x_tokenKind x_tokenValue x_tokenCount x_isSealed x_classHasSlot x_classSlot x_superDraft y_has y_initial y_draftHas y_draftInitial y_lists y_listLength y_gone y_single y_special y_shownSteps) (ihW : cm_PW D kk nc no0 ns nd x_lineClass x_lineLength x_methodGeneric x_parameterCount x_specialiser x_tokenKind x_tokenValue x_tokenCount x_isSealed x_classHasSlot x_classSlot x_superDraft y_has y_initial y_draftHas y_draftInitial y_lists y_listLength y_gone y_single y_special y_shownSteps μ) (ihT : cm_PT D kk nc no0 ns nd x_lineClass x_lineLength x_methodGeneric x_parameterCount x_specialiser x_tokenKind x_tokenValue x_tokenCount x_isSealed x_classHasSlot x_classSlot x_superDraft y_has y_initial y_draftHas y_draftInitial y_lists y_listLength y_gone y_single y_special y_shownSteps μ) : cm_PT D kk nc no0 ns nd x_lineClass x_lineLength x_methodGeneric x_parameterCount x_specialiser x_tokenKind x_tokenValue x_tokenCount x_isSealed x_classHasSlot x_classSlot x_superDraft y_has y_initial y_draftHas y_draftInitial y_lists y_listLength y_gone y_single y_special y_shownSteps (μ + 1) := by
  intro no s tt v f K
  intros
  rename_i h hn hv hwo hmu htt hY n hn'
  obtain ⟨m, pl, pc, ar, its⟩ := f
  obtain ⟨n1, rfl⟩ : ∃ n1, n = n1 + 1 := ⟨n - 1, by omega⟩
  cases its with
  | nil => exact cm_T_leave hC ihT h hn hv hwo hmu htt hY n1 hn'
  | cons it r =>
    obtain ⟨c, g, nv, z⟩ := it
    obtain ⟨gg, p, t, j, a1, a2, a3, a4, a5, a6, a7, a8, a9, a10, a11, a12, a13, a14, a15, a16, a17, a18⟩ := cm_top hC.2.2.2.2.2.1 h
    have htk := a12 j a10
    rw [← a11] at htk
    obtain ⟨q, hq, eq, hq1, hq3, hq45, hq11⟩ := htk
    have hK := cm_kind (x_parameterCount := x_parameterCount) (x_tokenValue := x_tokenValue) eq
    rw [hK] at a13
    have hne : q ≠ 0 ∧ q ≠ 1 ∧ q ≠ 2 ∧ q ≠ 12 := by
      refine ⟨?_, ?_, ?_, ?_⟩ <;> (rintro rfl; exact absurd a13 (Nat.not_lt_zero g))
    by_cases q9 : q = 9
    · subst q9
      obtain ⟨b1, b2⟩ := a14 eq
      subst b1
      have hg : g = 0 ∨ g = 1 := by omega
      rcases hg with rfl | rfl
      · exact cm_T_if0 hC ihW h hn hv hwo hmu htt eq hY n1 hn'
      · exact cm_T_if1 hC ihT h hn hv hwo hmu htt eq hY n1 hn'
    · have b1 : nv = g := a15 (by rw [eq]; exact fun zz => q9 (bs_inj (b := 9) (by omega) (by omega) zz))
      subst b1
      by_cases q10 : q = 10
      · subst q10
        have hA : rl_ar x_parameterCount (nI 10) (x_tokenValue c) = 2 := rfl
        have hg : nv = 0 ∨ nv = 1 := by omega
        rcases hg with rfl | rfl
        · exact cm_T_seq0 hC ihW h hn hv hwo hmu htt eq hY n1 hn'
        · exact cm_T_seq1 hC ihT h hn hv hwo hmu htt eq hY (n1 + 1) hn'
      · by_cases hmore : nv + 1 < (cm_A x_parameterCount x_tokenKind x_tokenValue) c
        · exact cm_T_more hC ihW h hn hv hwo hmu htt eq hq q9 q10 hmore hY n1 hn'
        · rw [hK] at hmore
          have hs9 : q = 3 ∨ q = 4 ∨ q = 5 ∨ q = 6 ∨ q = 7 ∨ q = 8 ∨ q = 11 := by omega
          rcases hs9 with rfl | rfl | rfl | rfl | rfl | rfl | rfl
          · obtain ⟨a, ha, ea⟩ := hq3 rfl
            obtain ⟨pp, hpp1, hpp3, epp⟩ := hC.2.2.2.1 a ha
            have hA : rl_ar x_parameterCount (nI 3) (x_tokenValue c) = pp := by
              rw [ea]
              show (x_parameterCount (nI a).toNatClampNeg).toNatClampNeg = pp
              rw [bs_clk (by omega), epp, bs_clk (by omega)]
            rw [hA] at hmore a13
            exact cm_T_call hC ihW h hn hv hwo hmu htt ha hpp1 hpp3 epp eq ea (by rw [hK, hA]) (by omega) hY n1 hn'
          · have hA : rl_ar x_parameterCount (nI 4) (x_tokenValue c) = 1 := rfl
            have hg : nv = 0 := by omega
            subst hg
            obtain ⟨a, ha, ea⟩ := hq45 (Or.inl rfl)
            exact cm_T_get hC ihT h hn hv hwo hmu htt ha eq ea hY n1 hn'
          · have hA : rl_ar x_parameterCount (nI 5) (x_tokenValue c) = 2 := rfl
            have hg : nv = 1 := by omega
            subst hg
            obtain ⟨a, ha, ea⟩ := hq45 (Or.inr rfl)
            exact cm_T_set hC ihT h hn hv hwo hmu htt ha eq ea hY n1 hn'
          · have hA : rl_ar x_parameterCount (nI 6) (x_tokenValue c) = 2 := rfl
            have hg : nv = 1 := by omega
            subst hg
            exact cm_T_int hC ihT h hn hv hwo hmu htt (by omega) (by omega) eq hY n1 hn'
          · have hA : rl_ar x_parameterCount (nI 7) (x_tokenValue c) = 2 := rfl
            have hg : nv = 1 := by omega
            subst hg
            exact cm_T_int hC ihT h hn hv hwo hmu htt (by omega) (by omega) eq hY n1 hn'
          · have hA : rl_ar x_parameterCount (nI 8) (x_tokenValue c) = 2 := rfl
            have hg : nv = 1 := by omega
            subst hg
            exact cm_T_int hC ihT h hn hv hwo hmu htt (by omega) (by omega) eq hY n1 hn'
          · have hA : rl_ar x_parameterCount (nI 11) (x_tokenValue c) = 1 := rfl
            have hg : nv = 0 := by omega
            subst hg
            exact cm_T_is hC ihT h hn hv hwo hmu htt eq hY n1 hn'
theorem cm_sim (hC : cm_C nc no0 ns nd x_lineClass x_lineLength x_methodGeneric x_parameterCount x_specialiser x_tokenKind x_tokenValue x_tokenCount x_isSealed x_classHasSlot x_classSlot x_superDraft y_has y_initial y_draftHas y_draftInitial y_lists y_listLength y_gone y_single y_special y_shownSteps) : ∀ μ, cm_PW D kk nc no0 ns nd x_lineClass x_lineLength x_methodGeneric x_parameterCount x_specialiser x_tokenKind x_tokenValue x_tokenCount x_isSealed x_classHasSlot x_classSlot x_superDraft y_has y_initial y_draftHas y_draftInitial y_lists y_listLength y_gone y_single y_special y_shownSteps μ ∧ cm_PT D kk nc no0 ns nd x_lineClass x_lineLength x_methodGeneric x_parameterCount x_specialiser x_tokenKind x_tokenValue x_tokenCount x_isSealed x_classHasSlot x_classSlot x_superDraft y_has y_initial y_draftHas y_draftInitial y_lists y_listLength y_gone y_single y_special y_shownSteps μ := by
  intro μ
  induction μ with
  | zero =>
    constructor
    · intro no s tt f K
      intros
      rename_i h hn hmu htt hY n hn'
      have e : (f :: K).length = K.length + 1 := rfl
      unfold cm_fi at hmu
      omega
    · intro no s tt v f K
      intros
      rename_i h hn hv hwo hmu htt hY n hn'
      have e : (f :: K).length = K.length + 1 := rfl
      unfold cm_fi at hmu
      omega
  | succ μ ih => exact ⟨cm_Wstep hC ih.1 ih.2, cm_Tstep hC ih.1 ih.2⟩
end
