theorem de_slt_f {nc : Nat} {CH CS HA IN DH DI DH' : Nat → Int32} (h : rl_slt nc CH CS HA IN DH DI) (hD : ∀ n, n < 4 → DH' n = 0) : rl_slt nc (de_z CH (4 * nc) 4) CS HA IN DH' DI := by
  obtain ⟨h1, h2, h3, h4⟩ := h
  refine ⟨fun j => ?_, fun j hj => ?_, fun n hn => ?_, fun j hj => ?_⟩
  · unfold de_z
    by_cases c : 4 * nc ≤ j ∧ j < 4 * nc + 4
    · rw [if_pos c]; exact Or.inl rfl
    · rw [if_neg c]; exact h1 j
  · have e : de_z CH (4 * nc) 4 j = CH j := if_neg (by omega)
    rw [e]; exact h2 j hj
  · have e : de_z CH (4 * nc) 4 (4 * nc + n) = 0 := if_pos (by omega)
    rw [e]; exact ⟨hD n hn, fun z => absurd z (show ¬ (0 : Int32) = 1 by decide)⟩
  · have e : de_z CH (4 * nc) 4 j = CH j := if_neg (by omega)
    rw [e]; exact h4 j hj
theorem de_slt_w {nc : Nat} {CH CS HA IN DH DI DH' HA' IN' : Nat → Int32} (h : rl_slt nc CH CS HA IN DH DI) (hD : ∀ n, n < 4 → DH' n = 0) (hcp : de_cp nc HA IN DH DI HA' IN' 4) : rl_slt (nc + 1) CH CS HA' IN' DH' DI := by
  obtain ⟨h1, h2, h3, h4⟩ := h
  refine ⟨h1, fun j hj => ?_, fun n hn => ?_, fun j hj => h4 j (by omega)⟩
  · by_cases c : j < 4 * nc
    · rw [(hcp.1 j c).1, (hcp.1 j c).2]; exact h2 j c
    · obtain ⟨n, hn, rfl⟩ : ∃ n, n < 4 ∧ j = 4 * nc + n := ⟨j - 4 * nc, by omega, by omega⟩
      rw [(hcp.2 n hn).1, (hcp.2 n hn).2]; exact h3 n hn
  · rw [h4 (4 * (nc + 1) + n) (by omega)]
    exact ⟨hD n hn, fun z => absurd z (show ¬ (0 : Int32) = 1 by decide)⟩
theorem de_cls_f {nc : Nat} {LC LL : Nat → Int32} (h : rl_cls nc LC LL) {E : Nat → Nat → Nat} {ln : Nat → Nat} {ns q : Nat} {x : Int32} : rl_cls nc (mg_ln E ln ns nc LC q) (upd LL nc x) := by
  refine ⟨h.1, h.2.1, fun c hc => ?_⟩
  obtain ⟨l, hl, el, hk⟩ := h.2.2 c hc
  refine ⟨l, hl, by rw [pk_un (by omega)]; exact el, fun k hkl => ?_⟩
  rw [mg_ln_lo q _ (by omega)]
  exact hk k hkl
theorem de_cls_w {nc : Nat} {LC LL : Nat → Int32} (h : rl_cls nc LC LL) {E : Nat → Nat → Nat} {ln : Nat → Nat} {ns : Nat} (hok : mg_ok E ln ns nc) : rl_cls (nc + 1) (mg_ln E ln ns nc LC (mg_N E ln ns)) (upd LL nc (nI (mg_N E ln ns + 1))) := by
  have h15 := hok.2.1
  have hN := mg_Nle hok
  refine ⟨by have := h.1; omega, by omega, fun c hc => ?_⟩
  by_cases e : c = nc
  · subst e
    refine ⟨mg_N E ln ns + 1, by omega, pk_us, fun k hk => ?_⟩
    cases k with
    | zero => exact ⟨c, by omega, mg_ln_0 _⟩
    | succ k =>
      have hh := mg_Nlt (E := E) (ln := ln) (ns := ns) (q := k) (by omega)
      have hst := mg_step hok (mg_all hok k (by omega)).1 hh
      refine ⟨mg_c E ln ns (mg_G E ln ns k), by have := hst.2.2; omega, ?_⟩
      rw [show 16 * c + (k + 1) = 16 * c + 1 + k by omega]
      exact mg_ln_i _ k (by omega)
  · obtain ⟨l, hl, el, hk⟩ := h.2.2 c (by omega)
    refine ⟨l, hl, by rw [pk_un e]; exact el, fun k hkl => ?_⟩
    rw [mg_ln_lo _ _ (by omega)]
    obtain ⟨e2, he2, ee2⟩ := hk k hkl
    exact ⟨e2, by omega, ee2⟩
theorem de_tk {nc : Nat} {k v : Int32} (h : rl_tk nc k v) : rl_tk (nc + 1) k v := by
  obtain ⟨q, h1, h2, h3, h4, h5, h6⟩ := h
  refine ⟨q, h1, h2, h3, h4, h5, fun z => ?_⟩
  obtain ⟨a, ha, e⟩ := h6 z
  exact ⟨a, by omega, e⟩
theorem de_tok {nc : Nat} {TK TV TC : Nat → Int32} (h : rl_tok nc TK TV TC) : rl_tok (nc + 1) TK TV TC := by
  intro m hm
  obtain ⟨t, ht, et, hi⟩ := h m hm
  exact ⟨t, ht, et, fun i hit => de_tk (hi i hit)⟩
theorem de_obj {nc no : Nat} {OC OH : Nat → Int32} {OS SL : Nat → Int64} (h : rl_obj nc no OC OH OS SL) : rl_obj (nc + 1) no OC OH OS SL := by
  refine ⟨h.1, fun k hk => ?_, h.2.2⟩
  obtain ⟨c, hc, e⟩ := h.2.1 k hk
  exact ⟨c, by omega, e⟩
theorem de_sp {nc no : Nat} {sp sg : Int64} {si : Int32} (h : rl_sp nc no sp si sg) : rl_sp (nc + 1) no sp si sg := by
  rcases h with ⟨e, c, hc, h1⟩ | h
  · exact Or.inl ⟨e, c, by omega, h1⟩
  · exact Or.inr h
theorem de_spc {nc no nd : Nat} {MG PC : Nat → Int32} {SP : Nat → Int64} {SI : Nat → Int32} {SG : Nat → Int64} (h : rl_spc nc no nd MG PC SP SI SG) : rl_spc (nc + 1) no nd MG PC SP SI SG :=
  ⟨h.1, fun k hk => de_sp (h.2.1 k hk), fun m g p hm hg hp h1 h2 k hk => de_sp (h.2.2 m g p hm hg hp h1 h2 k hk)⟩
section
variable {x_classCount : Int32} {x_superCount : Int32} {x_objectCount : Int32} {x_draftSpecialCount : Int32} {x_state : Int32} {x_stepCount : Int32} {x_latestValue : Int64} {x_enterGeneric : Int32} {x_enterPlace : Int32} {x_frameCount : Int32} {x_operatorCount : Int32} {x_valueCount : Int32} {x_lineClass : Nat → Int32} {x_lineLength : Nat → Int32} {x_isSealed : Nat → Int32} {x_classHasSlot : Nat → Int32} {x_classSlot : Nat → Int32} {x_superDraft : Nat → Int32} {x_objectClass : Nat → Int32} {x_objectHasSlot : Nat → Int32} {x_objectSlot : Nat → Int64} {x_parameterCount : Nat → Int32} {x_methodGeneric : Nat → Int32} {x_specialiser : Nat → Int64} {x_tokenKind : Nat → Int32} {x_tokenValue : Nat → Int32} {x_tokenCount : Nat → Int32} {x_argument : Nat → Int64} {x_rank : Nat → Int32} {x_orderPlace : Nat → Int32} {x_frameMethod : Nat → Int32} {x_framePlace : Nat → Int32} {x_frameToken : Nat → Int32} {x_frameOperators : Nat → Int32} {x_frameArgument : Nat → Int64} {x_operatorKind : Nat → Int32} {x_operatorValue : Nat → Int32} {x_operatorLeft : Nat → Int32} {x_workedOut : Nat → Int64} {y_classes : Int32} {y_supers : Int32} {y_objects : Int32} {y_specials : Int32} {y_depth : Int32} {y_ops : Int32} {y_held : Int32} {y_fault : Int32} {y_steps : Int32} {y_shownSteps : Int32} {y_result : Int64} {y_line : Nat → Int32} {y_lineLength : Nat → Int32} {y_has : Nat → Int32} {y_sealed : Nat → Int32} {y_initial : Nat → Int32} {y_drafted : Nat → Int32} {y_draftHas : Nat → Int32} {y_draftInitial : Nat → Int32} {y_lists : Nat → Int32} {y_listLength : Nat → Int32} {y_gone : Nat → Int32} {y_classOfObject : Nat → Int32} {y_slots : Nat → Int64} {y_parameters : Nat → Int32} {y_generic : Nat → Int32} {y_single : Nat → Int32} {y_special : Nat → Int64} {y_kind : Nat → Int32} {y_tokens : Nat → Int32} {y_with : Nat → Int32} {y_methodAt : Nat → Int32} {y_pc : Nat → Int32} {y_chosen : Nat → Int32} {y_many : Nat → Int32} {y_reached : Nat → Int32} {y_opsAt : Nat → Int32} {y_broken : Nat → Int32} {y_arguments : Nat → Int64} {y_operands : Nat → Int64} {y_operator : Nat → Int32} {y_got : Nat → Int32}
theorem de_core {k nc no ns nd : Nat} {v0 : SY} (h15 : nc ≤ 15) (hcls : rl_cls nc x_lineClass x_lineLength) (hsup : rl_sup nc ns x_superDraft) (hslt : rl_slt nc x_classHasSlot x_classSlot y_has y_initial y_draftHas y_draftInitial) (hobj : rl_obj nc no x_objectClass x_objectHasSlot x_objectSlot y_slots) (hpar : rl_par x_parameterCount) (hgen : rl_gen x_methodGeneric) (htok : rl_tok nc x_tokenKind x_tokenValue x_tokenCount) (hbod : rl_bod x_parameterCount x_methodGeneric x_tokenKind x_tokenValue x_tokenCount) (hspc : rl_spc nc no nd x_methodGeneric x_parameterCount x_specialiser y_single y_special) (hunq : rl_unq x_methodGeneric x_parameterCount x_specialiser)
    (hYd : ∀ post' : Int32 → SY → Prop, (∃ n, wY_define_40 post' (nI nc) (nI ns) (nI no) (nI nd) y_depth y_ops y_held y_fault y_steps x_stepCount x_latestValue x_lineClass x_lineLength y_has x_isSealed y_initial x_superDraft y_draftHas y_draftInitial y_lists y_listLength y_gone x_objectClass y_slots x_parameterCount x_methodGeneric y_single y_special x_tokenKind x_tokenCount x_tokenValue y_methodAt y_pc y_chosen y_many y_reached y_opsAt y_broken y_arguments y_operands y_operator y_got n 0 0) → wpY_define post' v0) : wX_define_31 (fun r u' => wpY_define (fun r' v' => r' = r ∧ i_Rel (k + 9) u' v') v0) (nI nc) (nI ns) (nI no) (nI nd) x_state x_stepCount x_latestValue x_enterGeneric x_enterPlace x_frameCount x_operatorCount x_valueCount x_lineClass x_lineLength x_isSealed x_classHasSlot x_classSlot x_superDraft x_objectClass x_objectHasSlot x_objectSlot x_parameterCount x_methodGeneric x_specialiser x_tokenKind x_tokenValue x_tokenCount x_argument x_rank x_orderPlace x_frameMethod x_framePlace x_frameToken x_frameOperators x_frameArgument x_operatorKind x_operatorValue x_operatorLeft x_workedOut := by
  have hz : ∀ n, n < 4 → y_draftHas n = 0 ∨ y_draftHas n = 1 := fun n hn => by
    rw [(hslt.2.2.1 n hn).1]; exact hslt.1 _
  have hok := mg_okL hcls h15 hsup
  refine mx_def31 hcls h15 hsup (fun hc => hYd _ ?_) (fun hc hb => hYd _ ?_) (fun hc hw => hYd _ ?_)
  · refine my_def40 hcls h15 hsup hz (fun _ DH' hD => ⟨rfl, ?_⟩) (fun z => absurd hc z) (fun z => absurd hc z)
    exact ⟨nc, no, 0, nd, rfl, rfl, rfl, rfl, rfl, rfl, rfl, rfl, rfl, rfl, rfl, rfl, rfl, rfl, rfl, rfl, rfl, rfl, rfl, rfl, hcls, ⟨by omega, fun i hi => by omega⟩, de_slt_f hslt hD, hobj, hpar, hgen, htok, hbod, hspc, hunq⟩
  · refine my_def40 hcls h15 hsup hz (fun z => absurd z hc) (fun _ _ ls ll go DH' hD => ⟨rfl, ?_⟩) (fun _ hw => by obtain ⟨k, hk, z⟩ := hb; exact absurd z (hw k hk))
    exact ⟨nc, no, 0, nd, rfl, rfl, rfl, rfl, rfl, rfl, rfl, rfl, rfl, rfl, rfl, rfl, rfl, rfl, rfl, rfl, rfl, rfl, rfl, rfl, de_cls_f hcls, ⟨by omega, fun i hi => by omega⟩, de_slt_f hslt hD, hobj, hpar, hgen, htok, hbod, hspc, hunq⟩
  · refine my_def40 hcls h15 hsup hz (fun z => absurd z hc) (fun _ hb => by obtain ⟨k, hk, z⟩ := hb; exact absurd z (hw k hk)) (fun _ _ ls ll go DH' HA' IN' hD hcp => ⟨rfl, ?_⟩)
    exact ⟨nc + 1, no, 0, nd, rfl, rfl, rfl, rfl, rfl, rfl, rfl, rfl, rfl, rfl, rfl, rfl, rfl, rfl, rfl, rfl, rfl, rfl, rfl, rfl, de_cls_w hcls hok, ⟨by omega, fun i hi => by omega⟩, de_slt_w hslt hD hcp, de_obj hobj, hpar, hgen, de_tok htok, hbod, de_spc hspc, hunq⟩
end
theorem i_vc_define {k : Nat} {u : SX} {v : SY} (I : i_Rel k u v) (hk : k + 9 ≤ 4608) : wpX_define (fun r u' => wpY_define (fun r' v' => r' = r ∧ i_Rel (k + 9) u' v') v) u := by
  obtain ⟨x_classCount, x_superCount, x_objectCount, x_draftSpecialCount, x_state, x_stepCount, x_latestValue, x_enterGeneric, x_enterPlace, x_frameCount, x_operatorCount, x_valueCount, x_lineClass, x_lineLength, x_isSealed, x_classHasSlot, x_classSlot, x_superDraft, x_objectClass, x_objectHasSlot, x_objectSlot, x_parameterCount, x_methodGeneric, x_specialiser, x_tokenKind, x_tokenValue, x_tokenCount, x_argument, x_rank, x_orderPlace, x_frameMethod, x_framePlace, x_frameToken, x_frameOperators, x_frameArgument, x_operatorKind, x_operatorValue, x_operatorLeft, x_workedOut⟩ := u
  obtain ⟨y_classes, y_supers, y_objects, y_specials, y_depth, y_ops, y_held, y_fault, y_steps, y_shownSteps, y_result, y_line, y_lineLength, y_has, y_sealed, y_initial, y_drafted, y_draftHas, y_draftInitial, y_lists, y_listLength, y_gone, y_classOfObject, y_slots, y_parameters, y_generic, y_single, y_special, y_kind, y_tokens, y_with, y_methodAt, y_pc, y_chosen, y_many, y_reached, y_opsAt, y_broken, y_arguments, y_operands, y_operator, y_got⟩ := v
  obtain ⟨nc, no, ns, nd, rfl, rfl, rfl, rfl, rfl, rfl, rfl, rfl, rfl, rfl, rfl, rfl, rfl, rfl, rfl, rfl, rfl, rfl, rfl, rfl, hcls, hsup, hslt, hobj, hpar, hgen, htok, hbod, hspc, hunq⟩ := I
  have J : i_Rel (k + 9) (nI nc, nI ns, nI no, nI nd, x_state, x_stepCount, x_latestValue, x_enterGeneric, x_enterPlace, x_frameCount, x_operatorCount, x_valueCount, x_lineClass, x_lineLength, x_isSealed, x_classHasSlot, x_classSlot, x_superDraft, x_objectClass, x_objectHasSlot, x_objectSlot, x_parameterCount, x_methodGeneric, x_specialiser, x_tokenKind, x_tokenValue, x_tokenCount, x_argument, x_rank, x_orderPlace, x_frameMethod, x_framePlace, x_frameToken, x_frameOperators, x_frameArgument, x_operatorKind, x_operatorValue, x_operatorLeft, x_workedOut) (nI nc, nI ns, nI no, nI nd, y_depth, y_ops, y_held, y_fault, y_steps, x_stepCount, x_latestValue, x_lineClass, x_lineLength, y_has, x_isSealed, y_initial, x_superDraft, y_draftHas, y_draftInitial, y_lists, y_listLength, y_gone, x_objectClass, y_slots, x_parameterCount, x_methodGeneric, y_single, y_special, x_tokenKind, x_tokenCount, x_tokenValue, y_methodAt, y_pc, y_chosen, y_many, y_reached, y_opsAt, y_broken, y_arguments, y_operands, y_operator, y_got) := ⟨nc, no, ns, nd, rfl, rfl, rfl, rfl, rfl, rfl, rfl, rfl, rfl, rfl, rfl, rfl, rfl, rfl, rfl, rfl, rfl, rfl, rfl, rfl, hcls, hsup, hslt, hobj, hpar, hgen, htok, hbod, hspc, hunq⟩
  have hn : nc ≤ 16 := hcls.2.1
  have h3 := hsup.1
  unfold wpX_define
  refine pk_eq nc 16 (fun e => ?_) (fun e => pk_eq ns 0 (fun e0 => ?_) (fun e0 => ?_))
  · unfold wpY_define
    exact br_t (congrArg nI e) ⟨rfl, J⟩
  · refine nm_e ?_
    subst e0
    refine de_core (y_depth := y_depth) (y_ops := y_ops) (y_held := y_held) (y_fault := y_fault) (y_steps := y_steps) (y_has := y_has) (y_initial := y_initial) (y_draftHas := y_draftHas) (y_draftInitial := y_draftInitial) (y_lists := y_lists) (y_listLength := y_listLength) (y_gone := y_gone) (y_slots := y_slots) (y_single := y_single) (y_special := y_special) (y_methodAt := y_methodAt) (y_pc := y_pc) (y_chosen := y_chosen) (y_many := y_many) (y_reached := y_reached) (y_opsAt := y_opsAt) (y_broken := y_broken) (y_arguments := y_arguments) (y_operands := y_operands) (y_operator := y_operator) (y_got := y_got) (ns := 1) (by omega) hcls ⟨by omega, fun i hi => ?_⟩ hslt hobj hpar hgen htok hbod hspc hunq (fun post' hY => ?_)
    · have ei : i = 0 := by omega
      subst ei
      exact ⟨0, by have := hcls.1; omega, pk_us⟩
    · unfold wpY_define
      exact pk_eq nc 16 (fun z => absurd z e) (fun _ => br_t rfl (nm_r (nI_1 0) ⟨pk_in 0 3 (by omega), nm_r (e' := upd x_superDraft 0 0) (by rw [bs_v0]; rfl) hY⟩))
  · refine de_core (y_depth := y_depth) (y_ops := y_ops) (y_held := y_held) (y_fault := y_fault) (y_steps := y_steps) (y_has := y_has) (y_initial := y_initial) (y_draftHas := y_draftHas) (y_draftInitial := y_draftInitial) (y_lists := y_lists) (y_listLength := y_listLength) (y_gone := y_gone) (y_slots := y_slots) (y_single := y_single) (y_special := y_special) (y_methodAt := y_methodAt) (y_pc := y_pc) (y_chosen := y_chosen) (y_many := y_many) (y_reached := y_reached) (y_opsAt := y_opsAt) (y_broken := y_broken) (y_arguments := y_arguments) (y_operands := y_operands) (y_operator := y_operator) (y_got := y_got) (by omega) hcls hsup hslt hobj hpar hgen htok hbod hspc hunq (fun post' hY => ?_)
    unfold wpY_define
    exact pk_eq nc 16 (fun z => absurd z e) (fun _ => pk_eq ns 0 (fun z => absurd z e0) (fun _ => hY))
