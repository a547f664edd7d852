theorem me_comm {f : Nat → Int32} {a b : Nat} {x y : Int32} (h : a ≠ b) : upd (upd f a x) b y = upd (upd f b y) a x := by
  funext j
  by_cases e : j = b
  · rw [e, pk_us, pk_un (fun z => h z.symm), pk_us]
  · rw [pk_un e]
    by_cases e2 : j = a
    · rw [e2, pk_us, pk_us]
    · rw [pk_un e2, pk_un e2, pk_un e]
theorem me_tok {nc m t : Nat} {TK TV TC : Nat → Int32} (h : rl_tok nc TK TV TC) (hm : m < 24) (ht : t ≤ 16) (et : TC 24 = nI t) : rl_tok nc (me_cp TK (16 * m) 384 t) (me_cp TV (16 * m) 384 t) (upd (upd TC m (nI t)) 24 0) := by
  intro j hj
  by_cases e : j = 24
  · rw [e, pk_us]
    exact ⟨0, by omega, rfl, fun i hi => by omega⟩
  · rw [pk_un e]
    by_cases e2 : j = m
    · rw [e2, pk_us]
      refine ⟨t, ht, rfl, fun i hi => ?_⟩
      rw [me_cp_i hi, me_cp_i hi]
      obtain ⟨t', h1, h2, h3⟩ := h 24 (by omega)
      rw [et] at h2
      have := bs_inj (by omega) (by omega) h2
      exact h3 i (by omega)
    · rw [pk_un e2]
      obtain ⟨t', h1, h2, h3⟩ := h j hj
      refine ⟨t', h1, h2, fun i hi => ?_⟩
      rw [me_cp_n (by omega), me_cp_n (by omega)]
      exact h3 i hi
theorem me_tok0 {nc : Nat} {TK TV TC : Nat → Int32} (h : rl_tok nc TK TV TC) : rl_tok nc TK TV (upd TC 24 0) := by
  intro j hj
  by_cases e : j = 24
  · rw [e, pk_us]
    exact ⟨0, by omega, rfl, fun i hi => by omega⟩
  · rw [pk_un e]
    exact h j hj
theorem me_bod {m g p nd t : Nat} {PC MG TK TV TC : Nat → Int32} (h : rl_bod PC MG TK TV TC) (hm : m < 24) (hg : g < 5) (hp3 : p ≤ 3) (ht : t ≤ 16) (ep : PC g = nI p) (hso : me_so PC TK TV p nd t) : rl_bod PC (upd MG m (nI g)) (me_cp TK (16 * m) 384 t) (me_cp TV (16 * m) 384 t) (upd (upd TC m (nI t)) 24 0) := by
  intro j g' p' t' hj hg' hp' ht' h1 h2 h3
  by_cases e : j = m
  · subst e
    rw [pk_us] at h1
    have eg := bs_inj (by omega) (by omega) h1
    subst eg
    rw [ep] at h2
    have ep' := bs_inj (by omega) (by omega) h2
    subst ep'
    rw [pk_un (by omega), pk_us] at h3
    have et' := bs_inj (by omega) (by omega) h3
    subst et'
    refine ⟨fun i hi hk => ?_, ea_pn_c t 0 1 (fun i _ hi => ?_) hso.2.2⟩
    · rw [me_cp_i hi] at hk ⊢
      exact hso.2.1 i hi hk
    · unfold rl_am
      rw [me_cp_i (by omega), me_cp_i (by omega)]
  · rw [pk_un e] at h1
    rw [pk_un (by omega), pk_un e] at h3
    obtain ⟨b1, b2⟩ := h j g' p' t' hj hg' hp' ht' h1 h2 h3
    refine ⟨fun i hi hk => ?_, ea_pn_c t' 0 1 (fun i _ hi => ?_) b2⟩
    · rw [me_cp_n (by omega)] at hk
      rw [me_cp_n (by omega)]
      exact b1 i hi hk
    · unfold rl_am
      rw [me_cp_n (by omega), me_cp_n (by omega)]
theorem me_spc {nc no nd m g p : Nat} {MG PC : Nat → Int32} {SP SP' : Nat → Int64} {SI SI' : Nat → Int32} {SG SG' : Nat → Int64} (h : rl_spc nc no nd MG PC SP SI SG) (hm : m < 24) (hg : g < 5) (hp3 : p ≤ 3) (ep : PC g = nI p) (epd : nd = p) (hX : me_PX SP SP' m nd) (hY : me_PY SI SI' SG SG' m nd 3) : rl_spc nc no 0 (upd MG m (nI g)) PC SP' SI' SG' := by
  refine ⟨by omega, fun k hk => by omega, fun j g' p' hj hg' hp' h1 h2 k hk => ?_⟩
  by_cases e : j = m
  · subst e
    rw [pk_us] at h1
    have eg := bs_inj (by omega) (by omega) h1
    subst eg
    rw [ep] at h2
    have ep' := bs_inj (by omega) (by omega) h2
    subst ep'
    rw [hX.2 k (by omega), (hY.2 k (by omega) (by omega)).1, (hY.2 k (by omega) (by omega)).2]
    exact h.2.1 k (by omega)
  · rw [pk_un e] at h1
    rw [hX.1 _ (by omega), (hY.1 _ (by omega)).1, (hY.1 _ (by omega)).2]
    exact h.2.2 j g' p' hj hg' hp' h1 h2 k hk
theorem me_unq {nd m g p : Nat} {MG PC : Nat → Int32} {SP SP' : Nat → Int64} (h : rl_unq MG PC SP) (hm : m < 24) (hg : g < 5) (hp3 : p ≤ 3) (ep : PC g = nI p) (epd : nd = p) (hX : me_PX SP SP' m nd) (hpl : me_sm MG SP g nd m ∨ ∀ m, m < 24 → ¬ me_sm MG SP g nd m) : rl_unq (upd MG m (nI g)) PC SP' := by
  have key : ∀ j, j < 24 → j ≠ m → MG j = nI g → (∀ k, k < p → SP (72 + k) = SP (3 * j + k)) → False := by
    intro j hj hjm e hk
    have hsm : me_sm MG SP g nd j := ⟨e, fun k hk2 => (hk k (by omega)).symm⟩
    rcases hpl with hpl | hpl
    · exact hjm (h j m g p hj hm hg hp3 e hpl.1 ep (fun k hk2 => by rw [hsm.2 k (by omega), hpl.2 k (by omega)]))
    · exact hpl j hj hsm
  intro i j g' p' hi hj hg' hp' h1 h2 h3 h4
  by_cases e : i = m
  · by_cases e2 : j = m
    · omega
    · rw [pk_un e2] at h2
      rw [e, pk_us] at h1
      have eg := bs_inj (by omega) (by omega) h1
      subst eg
      rw [ep] at h3
      have ep' := bs_inj (by omega) (by omega) h3
      subst ep'
      refine absurd (key j hj e2 h2 (fun k hk => ?_)) (fun z => z)
      have := h4 k hk
      rw [e, hX.2 k (by omega), hX.1 _ (by omega)] at this
      exact this
  · rw [pk_un e] at h1
    by_cases e2 : j = m
    · rw [e2, pk_us] at h2
      have eg := bs_inj (by omega) (by omega) h2
      subst eg
      rw [ep] at h3
      have ep' := bs_inj (by omega) (by omega) h3
      subst ep'
      refine absurd (key i hi e h1 (fun k hk => ?_)) (fun z => z)
      have := h4 k hk
      rw [e2, hX.2 k (by omega), hX.1 _ (by omega)] at this
      exact this.symm
    · rw [pk_un e2] at h2
      refine h i j g' p' hi hj hg' hp' h1 h2 h3 (fun k hk => ?_)
      have := h4 k hk
      rw [hX.1 _ (by omega), hX.1 _ (by omega)] at this
      exact this
theorem i_vc_method {k : Nat} {u : SX} {v : SY} (I : i_Rel k u v) (hk : k + 9 ≤ 4608) (v1 : Int32) : wpX_method (fun r u' => wpY_method (fun r' v' => r' = r ∧ i_Rel (k + 9) u' v') v v1) u v1 := by
  obtain ⟨x_classCount, x_superCount, x_objectCount, x_draftSpecialCount, x_state, x_stepCount, x_latestValue, x_enterGeneric, x_enterPlace, x_frameCount, x_operatorCount, x_valueCount, x_lineClass, x_lineLength, x_isSealed, x_classHasSlot, x_classSlot, x_superDraft, x_objectClass, x_objectHasSlot, x_objectSlot, x_parameterCount, x_methodGeneric, x_specialiser, x_tokenKind, x_tokenValue, x_tokenCount, x_argument, x_rank, x_orderPlace, x_frameMethod, x_framePlace, x_frameToken, x_frameOperators, x_frameArgument, x_operatorKind, x_operatorValue, x_operatorLeft, x_workedOut⟩ := u
  obtain ⟨y_classes, y_supers, y_objects, y_specials, y_depth, y_ops, y_held, y_fault, y_steps, y_shownSteps, y_result, y_line, y_lineLength, y_has, y_sealed, y_initial, y_drafted, y_draftHas, y_draftInitial, y_lists, y_listLength, y_gone, y_classOfObject, y_slots, y_parameters, y_generic, y_single, y_special, y_kind, y_tokens, y_with, y_methodAt, y_pc, y_chosen, y_many, y_reached, y_opsAt, y_broken, y_arguments, y_operands, y_operator, y_got⟩ := v
  obtain ⟨nc, no, ns, nd, rfl, rfl, rfl, rfl, rfl, rfl, rfl, rfl, rfl, rfl, rfl, rfl, rfl, rfl, rfl, rfl, rfl, rfl, rfl, rfl, hcls, hsup, hslt, hobj, hpar, hgen, htok, hbod, hspc, hunq⟩ := I
  have J : i_Rel (k + 9) (nI nc, nI ns, nI no, nI nd, x_state, x_stepCount, x_latestValue, x_enterGeneric, x_enterPlace, x_frameCount, x_operatorCount, x_valueCount, x_lineClass, x_lineLength, x_isSealed, x_classHasSlot, x_classSlot, x_superDraft, x_objectClass, x_objectHasSlot, x_objectSlot, x_parameterCount, x_methodGeneric, x_specialiser, x_tokenKind, x_tokenValue, x_tokenCount, x_argument, x_rank, x_orderPlace, x_frameMethod, x_framePlace, x_frameToken, x_frameOperators, x_frameArgument, x_operatorKind, x_operatorValue, x_operatorLeft, x_workedOut) (nI nc, nI ns, nI no, nI nd, y_depth, y_ops, y_held, y_fault, y_steps, x_stepCount, x_latestValue, x_lineClass, x_lineLength, y_has, x_isSealed, y_initial, x_superDraft, y_draftHas, y_draftInitial, y_lists, y_listLength, y_gone, x_objectClass, y_slots, x_parameterCount, x_methodGeneric, y_single, y_special, x_tokenKind, x_tokenCount, x_tokenValue, y_methodAt, y_pc, y_chosen, y_many, y_reached, y_opsAt, y_broken, y_arguments, y_operands, y_operator, y_got) := ⟨nc, no, ns, nd, rfl, rfl, rfl, rfl, rfl, rfl, rfl, rfl, rfl, rfl, rfl, rfl, rfl, rfl, rfl, rfl, rfl, rfl, rfl, rfl, hcls, hsup, hslt, hobj, hpar, hgen, htok, hbod, hspc, hunq⟩
  have hn : nc ≤ 16 := hcls.2.1
  have hno := hobj.1
  have hnd := hspc.1
  obtain ⟨t, ht, et, htt⟩ := htok 24 (by omega)
  rcases bs_ar2 v1 (n := 5) (by omega) with h | ⟨g, hg, rfl⟩
  · unfold wpX_method
    refine mx_isGeneric_f h (br_t rfl ?_)
    unfold wpY_method
    exact my_out_f (q := 5) h (br_f (by decide) ⟨rfl, J⟩)
  · obtain ⟨p, hp1, hp3, ep⟩ := hpar g hg
    have hs : ∀ m, m < 24 → x_methodGeneric m = nI g → ∀ k, k < p → rl_sp nc no (x_specialiser (3 * m + k)) (y_single (3 * m + k)) (y_special (3 * m + k)) := fun m hm e q hq => hspc.2.2 m g p hm hg hp3 e ep q hq
    have hJ0 : i_Rel (k + 9) (nI nc, nI ns, nI no, 0, x_state, x_stepCount, x_latestValue, x_enterGeneric, x_enterPlace, x_frameCount, x_operatorCount, x_valueCount, x_lineClass, x_lineLength, x_isSealed, x_classHasSlot, x_classSlot, x_superDraft, x_objectClass, x_objectHasSlot, x_objectSlot, x_parameterCount, x_methodGeneric, x_specialiser, x_tokenKind, x_tokenValue, upd x_tokenCount 24 0, x_argument, x_rank, x_orderPlace, x_frameMethod, x_framePlace, x_frameToken, x_frameOperators, x_frameArgument, x_operatorKind, x_operatorValue, x_operatorLeft, x_workedOut) (nI nc, nI ns, nI no, 0, y_depth, y_ops, y_held, y_fault, y_steps, x_stepCount, x_latestValue, x_lineClass, x_lineLength, y_has, x_isSealed, y_initial, x_superDraft, y_draftHas, y_draftInitial, y_lists, y_listLength, y_gone, x_objectClass, y_slots, x_parameterCount, x_methodGeneric, y_single, y_special, x_tokenKind, upd x_tokenCount 24 0, x_tokenValue, y_methodAt, y_pc, y_chosen, y_many, y_reached, y_opsAt, y_broken, y_arguments, y_operands, y_operator, y_got) :=
      ⟨nc, no, ns, 0, rfl, rfl, rfl, rfl, rfl, rfl, rfl, rfl, rfl, rfl, rfl, rfl, rfl, rfl, rfl, rfl, rfl, rfl, rfl, rfl, hcls, hsup, hslt, hobj, hpar, hgen, me_tok0 htok, ea_bod_c hbod (fun m g hm hg _ => ⟨pk_un (by omega), fun i hi => ⟨rfl, rfl⟩⟩), ⟨by omega, fun q hq => by omega, hspc.2.2⟩, hunq⟩
    have hJ1 : ∀ m, m < 24 → me_so x_parameterCount x_tokenKind x_tokenValue p nd t → (me_sm x_methodGeneric x_specialiser g nd m ∨ ∀ m, m < 24 → ¬ me_sm x_methodGeneric x_specialiser g nd m) → ∀ (SP' : Nat → Int64), me_PX x_specialiser SP' m nd → ∀ (SI' : Nat → Int32) (SG' : Nat → Int64), me_PY y_single SI' y_special SG' m nd 3 → i_Rel (k + 9) (nI nc, nI ns, nI no, 0, x_state, x_stepCount, x_latestValue, x_enterGeneric, x_enterPlace, x_frameCount, x_operatorCount, x_valueCount, x_lineClass, x_lineLength, x_isSealed, x_classHasSlot, x_classSlot, x_superDraft, x_objectClass, x_objectHasSlot, x_objectSlot, x_parameterCount, upd x_methodGeneric m (nI g), SP', me_cp x_tokenKind (16 * m) 384 t, me_cp x_tokenValue (16 * m) 384 t, upd (upd x_tokenCount m (nI t)) 24 0, x_argument, x_rank, x_orderPlace, x_frameMethod, x_framePlace, x_frameToken, x_frameOperators, x_frameArgument, x_operatorKind, x_operatorValue, x_operatorLeft, x_workedOut) (nI nc, nI ns, nI no, 0, y_depth, y_ops, y_held, y_fault, y_steps, x_stepCount, x_latestValue, x_lineClass, x_lineLength, y_has, x_isSealed, y_initial, x_superDraft, y_draftHas, y_draftInitial, y_lists, y_listLength, y_gone, x_objectClass, y_slots, x_parameterCount, upd x_methodGeneric m (nI g), SI', SG', me_cp x_tokenKind (16 * m) 384 t, upd (upd x_tokenCount 24 0) m (nI t), me_cp x_tokenValue (16 * m) 384 t, y_methodAt, y_pc, y_chosen, y_many, y_reached, y_opsAt, y_broken, y_arguments, y_operands, y_operator, y_got) := by
      intro m hm hso hpl SP' hX SI' SG' hY
      refine ⟨nc, no, ns, 0, rfl, rfl, rfl, rfl, rfl, rfl, rfl, rfl, rfl, rfl, rfl, rfl, rfl, rfl, rfl, rfl, rfl, rfl, rfl, me_comm (by omega), hcls, hsup, hslt, hobj, hpar, fun j hj => ?_, me_tok htok hm ht et, me_bod hbod hm hg hp3 ht ep hso, me_spc hspc hm hg hp3 ep hso.1 hX hY, me_unq hunq hm hg hp3 ep hso.1 hX hpl⟩
      by_cases e : j = m
      · rw [e, pk_us]; exact Or.inr ⟨g, hg, rfl⟩
      · rw [pk_un e]; exact hgen j hj
    unfold wpX_method
    refine mx_isGeneric_t hg (br_f (by decide) ?_)
    refine mx_isDraftSound hg hnd hp3 ep hpar ht et htt (fun hso => br_f (by decide) ?_) (fun hso => br_t rfl ?_)
    · have epd : nd = p := hso.1
      have fin : ∀ m, m < 24 → (me_sm x_methodGeneric x_specialiser g nd m ∨ ((∀ m, m < 24 → ¬ me_sm x_methodGeneric x_specialiser g nd m) ∧ x_methodGeneric m = -1 ∧ ∀ j, j < m → ¬ x_methodGeneric j = -1)) → ∀ (SP' : Nat → Int64), me_PX x_specialiser SP' m nd → wpY_method (fun r' v' => r' = nI m ∧ i_Rel (k + 9) (nI nc, nI ns, nI no, 0, x_state, x_stepCount, x_latestValue, x_enterGeneric, x_enterPlace, x_frameCount, x_operatorCount, x_valueCount, x_lineClass, x_lineLength, x_isSealed, x_classHasSlot, x_classSlot, x_superDraft, x_objectClass, x_objectHasSlot, x_objectSlot, x_parameterCount, upd x_methodGeneric m (nI g), SP', me_cp x_tokenKind (16 * m) 384 t, me_cp x_tokenValue (16 * m) 384 t, upd (upd x_tokenCount m (nI t)) 24 0, x_argument, x_rank, x_orderPlace, x_frameMethod, x_framePlace, x_frameToken, x_frameOperators, x_frameArgument, x_operatorKind, x_operatorValue, x_operatorLeft, x_workedOut) v') (nI nc, nI ns, nI no, nI nd, y_depth, y_ops, y_held, y_fault, y_steps, x_stepCount, x_latestValue, x_lineClass, x_lineLength, y_has, x_isSealed, y_initial, x_superDraft, y_draftHas, y_draftInitial, y_lists, y_listLength, y_gone, x_objectClass, y_slots, x_parameterCount, x_methodGeneric, y_single, y_special, x_tokenKind, x_tokenCount, x_tokenValue, y_methodAt, y_pc, y_chosen, y_many, y_reached, y_opsAt, y_broken, y_arguments, y_operands, y_operator, y_got) (nI g) := by
        intro m hm hpl SP' hX
        refine my_method (nc := nc) (p := p) (t := t) hn hno hg hp3 hnd ht ep et hgen hpar htt hs hspc.2.1 (fun z => absurd hso z) (fun _ h1 h2 => ?_) (fun _ m' hm' hpl' SI' SG' hY => ?_)
        · rcases hpl with hpl | ⟨_, e, _⟩
          · exact absurd hpl (h1 m hm)
          · exact absurd e (h2 m hm)
        · have em : m' = m := by
            rcases hpl with hpl | ⟨h1, h2, h3⟩
            · rcases hpl' with hpl' | ⟨h1', _⟩
              · exact hunq m' m g p hm' hm hg hp3 hpl'.1 hpl.1 ep (fun q hq => by rw [hpl'.2 q (by omega), hpl.2 q (by omega)])
              · exact absurd hpl (h1' m hm)
            · rcases hpl' with hpl' | ⟨_, h2', h3'⟩
              · exact absurd hpl' (h1 m' hm')
              · by_cases c1 : m' < m
                · exact absurd h2' (h3 m' c1)
                · by_cases c2 : m < m'
                  · exact absurd h2 (h3' m c2)
                  · omega
          subst em
          refine ⟨rfl, hJ1 m' hm hso ?_ SP' hX SI' SG' hY⟩
          rcases hpl with hpl | ⟨h1, _⟩
          · exact Or.inl hpl
          · exact Or.inr h1
      refine mx_placeForDraft hg hnd (fun m hm hsm => ?_) (fun hnone f hf e hj => ?_) (fun hnone hfull => ?_)
      · refine br_f (bs_n1 (by omega)) (br_f (bs_n1 (by omega)) ?_)
        exact mx_copyDraft (nc := nc) hg hm hnd ht et (fun SP' hX => nm_e (fin m hm (Or.inl hsm) SP' hX))
      · refine br_f (bs_n1 (by omega)) (br_f (bs_n1 (by omega)) ?_)
        exact mx_copyDraft (nc := nc) hg hf hnd ht et (fun SP' hX => nm_e (fin f hf (Or.inr ⟨hnone, e, hj⟩) SP' hX))
      · refine br_t rfl (br_t rfl (nm_e ?_))
        refine my_method (nc := nc) (p := p) (t := t) hn hno hg hp3 hnd ht ep et hgen hpar htt hs hspc.2.1 (fun z => absurd hso z) (fun _ h1 h2 => ⟨rfl, hJ0⟩) (fun _ m' hm' hpl' SI' SG' hY => ?_)
        rcases hpl' with hpl' | ⟨_, h2', h3'⟩
        · exact absurd hpl' (hnone m' hm')
        · exact absurd h2' (hfull m' hm')
    · refine nm_e ?_
      exact my_method (nc := nc) (p := p) (t := t) hn hno hg hp3 hnd ht ep et hgen hpar htt hs hspc.2.1 (fun _ => ⟨rfl, hJ0⟩) (fun z => absurd z hso) (fun z => absurd z hso)
