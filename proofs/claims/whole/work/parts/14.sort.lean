/-! findOrder, sort, order -/
def or_P (MG : Nat → Int32) (R : Nat → Nat → Int32) (g p m : Nat) : Prop := MG m = nI g ∧ or_app R p m
/-- the bit set of the applicable methods -/
noncomputable def or_L (MG : Nat → Int32) (R : Nat → Nat → Int32) (g p : Nat) : Int32 := or_ap (or_P MG R g p) 24
def or_S (R : Nat → Nat → Int32) (p : Nat) (L : Int32) (lv : Nat) (ch mn bk ch' mn' bk' : Nat → Int32) : Prop := mn' lv = nI (or_mn R p L) ∧ bk' lv = bs_ci (or_sq R p L (or_mn R p L) = 0) 0 1 ∧ (∀ j, j < or_mn R p L → ch' (24 * lv + j) = nI (or_ld R p (or_sq R p L j))) ∧ (∀ f, f ≠ lv → mn' f = mn f ∧ bk' f = bk f) ∧ (∀ j, (j < 24 * lv ∨ 24 * lv + 24 ≤ j) → ch' j = ch j)
theorem or_LF {MG : Nat → Int32} {R : Nat → Nat → Int32} {g p q m : Nat} (hm : m < 24) (h : or_bit (or_sq R p (or_L MG R g p) q) m) : or_P MG R g p m :=
  ((or_ap_b 24 (by omega) m (by omega)).mp (or_sq_sub q m hm h)).2
section
variable {x_classCount : Int32} {x_superCount : Int32} {x_objectCount : Int32} {x_draftSpecialCount : Int32} {x_state : Int32} {x_stepCount : Int32} {x_latestValue : Int64} {x_enterGeneric : Int32} {x_enterPlace : Int32} {x_frameCount : Int32} {x_operatorCount : Int32} {x_valueCount : Int32} {x_lineClass : Nat → Int32} {x_lineLength : Nat → Int32} {x_isSealed : Nat → Int32} {x_classHasSlot : Nat → Int32} {x_classSlot : Nat → Int32} {x_superDraft : Nat → Int32} {x_objectClass : Nat → Int32} {x_objectHasSlot : Nat → Int32} {x_objectSlot : Nat → Int64} {x_parameterCount : Nat → Int32} {x_methodGeneric : Nat → Int32} {x_specialiser : Nat → Int64} {x_tokenKind : Nat → Int32} {x_tokenValue : Nat → Int32} {x_tokenCount : Nat → Int32} {x_argument : Nat → Int64} {x_rank : Nat → Int32} {x_orderPlace : Nat → Int32} {x_frameMethod : Nat → Int32} {x_framePlace : Nat → Int32} {x_frameToken : Nat → Int32} {x_frameOperators : Nat → Int32} {x_frameArgument : Nat → Int64} {x_operatorKind : Nat → Int32} {x_operatorValue : Nat → Int32} {x_operatorLeft : Nat → Int32} {x_workedOut : Nat → Int64} {y_classes : Int32} {y_supers : Int32} {y_objects : Int32} {y_specials : Int32} {y_depth : Int32} {y_ops : Int32} {y_held : Int32} {y_fault : Int32} {y_steps : Int32} {y_shownSteps : Int32} {y_result : Int64} {y_line : Nat → Int32} {y_lineLength : Nat → Int32} {y_has : Nat → Int32} {y_sealed : Nat → Int32} {y_initial : Nat → Int32} {y_drafted : Nat → Int32} {y_draftHas : Nat → Int32} {y_draftInitial : Nat → Int32} {y_lists : Nat → Int32} {y_listLength : Nat → Int32} {y_gone : Nat → Int32} {y_classOfObject : Nat → Int32} {y_slots : Nat → Int64} {y_parameters : Nat → Int32} {y_generic : Nat → Int32} {y_single : Nat → Int32} {y_special : Nat → Int64} {y_kind : Nat → Int32} {y_tokens : Nat → Int32} {y_with : Nat → Int32} {y_methodAt : Nat → Int32} {y_pc : Nat → Int32} {y_chosen : Nat → Int32} {y_many : Nat → Int32} {y_reached : Nat → Int32} {y_opsAt : Nat → Int32} {y_broken : Nat → Int32} {y_arguments : Nat → Int64} {y_operands : Nat → Int64} {y_operator : Nat → Int32} {y_got : Nat → Int32}
theorem mx_fo42 {post : SX → Prop} {R : Nat → Nat → Int32} {g p : Nat} {L : Int32} (hg : g < 5) (hp3 : p ≤ 3) (ep : x_parameterCount g = nI p) (hF : ∀ q m, m < 24 → or_bit (or_sq R p L q) m → x_methodGeneric m = nI g ∧ ∀ k, k < p → x_rank (3 * m + k) = R m k) (hp : ∀ op' : Nat → Int32, (∀ q, q < 25 → op' q = or_ox R p (or_sq R p L q)) → post (x_classCount, x_superCount, x_objectCount, x_draftSpecialCount, x_state, x_stepCount, x_latestValue, x_enterGeneric, x_enterPlace, x_frameCount, x_operatorCount, x_valueCount, x_lineClass, x_lineLength, x_isSealed, x_classHasSlot, x_classSlot, x_superDraft, x_objectClass, x_objectHasSlot, x_objectSlot, x_parameterCount, x_methodGeneric, x_specialiser, x_tokenKind, x_tokenValue, x_tokenCount, x_argument, x_rank, op', x_frameMethod, x_framePlace, x_frameToken, x_frameOperators, x_frameArgument, x_operatorKind, x_operatorValue, x_operatorLeft, x_workedOut)) : ∃ n, wX_findOrder_42 post x_classCount x_superCount x_objectCount x_draftSpecialCount x_state x_stepCount x_latestValue x_enterGeneric x_enterPlace x_frameCount x_operatorCount x_valueCount n L 0 x_lineClass x_lineLength x_isSealed x_classHasSlot x_classSlot x_superDraft x_objectClass x_objectHasSlot x_objectSlot x_parameterCount x_methodGeneric x_specialiser x_tokenKind x_tokenValue x_tokenCount x_argument x_rank x_orderPlace x_frameMethod x_framePlace x_frameToken x_frameOperators x_frameArgument x_operatorKind x_operatorValue x_operatorLeft x_workedOut := by
  refine loop_0 (σ := Int32 × (Nat → Int32)) (fun n i s => wX_findOrder_42 post x_classCount x_superCount x_objectCount x_draftSpecialCount x_state x_stepCount x_latestValue x_enterGeneric x_enterPlace x_frameCount x_operatorCount x_valueCount n s.1 (nI i) x_lineClass x_lineLength x_isSealed x_classHasSlot x_classSlot x_superDraft x_objectClass x_objectHasSlot x_objectSlot x_parameterCount x_methodGeneric x_specialiser x_tokenKind x_tokenValue x_tokenCount x_argument x_rank s.2 x_frameMethod x_framePlace x_frameToken x_frameOperators x_frameArgument x_operatorKind x_operatorValue x_operatorLeft x_workedOut) (fun i s => s.1 = or_sq R p L i ∧ ∀ j, j < i → s.2 j = or_ox R p (or_sq R p L j)) 25 (L, x_orderPlace) ⟨rfl, lt_0⟩ ?_ ?_
  · intro n s hI
    exact br_t (nI_le (Nat.le_refl _) (by omega)) (hp s.2 hI.2)
  · rintro n i ⟨s1, s2⟩ hi ⟨e1, hI⟩ k
    dsimp only at e1 hI
    subst e1
    refine br_f (nI_ge (b := 25) hi (by omega)) ?_
    refine mx_leader (R := R) hg hp3 ep (hF i) ⟨pk_in i 25 hi, nm_r (e' := upd s2 i (or_ox R p (or_sq R p L i))) (by rw [bs_clk (by omega)]) ?_⟩
    have hI2 : ∀ j, j < i + 1 → upd s2 i (or_ox R p (or_sq R p L i)) j = or_ox R p (or_sq R p L j) := by
      intro j hj
      by_cases e : j = i
      · rw [e, pk_us]
      · rw [pk_un e]; exact hI j (by omega)
    by_cases hl : or_ld R p (or_sq R p L i) < 24
    · have eo : or_ox R p (or_sq R p L i) = nI (or_ld R p (or_sq R p L i)) := bs_ct hl
      refine br_f (by rw [eo]; exact nI_pos (by omega)) (nm_r (e' := or_sq R p L (i + 1)) (by rw [eo]; exact or_sq_t hl) (nm_r (nI_1 i) (k (or_sq R p L (i + 1), upd s2 i (or_ox R p (or_sq R p L i))) ⟨rfl, hI2⟩)))
    · have eo : or_ox R p (or_sq R p L i) < 0 := by
        have e : or_ox R p (or_sq R p L i) = bs_ci (or_sq R p L i = 0) (-1) (-2) := bs_cf hl
        rw [e]
        by_cases z : or_sq R p L i = 0
        · rw [bs_ct z]; decide
        · rw [bs_cf z]; decide
      exact br_t eo (nm_r (nI_1 i) (k (or_sq R p L i, upd s2 i (or_ox R p (or_sq R p L i))) ⟨or_sq_f hl, hI2⟩))
theorem mx_findOrder {post : SX → Prop} {nc no g p : Nat} {ar : Nat → Int64} (hW : or_W nc no g p x_lineClass x_lineLength x_objectClass x_parameterCount ar) (ha : ∀ k, k < p → x_argument k = ar k)
    (hp : ∀ rk' op' : Nat → Int32, (∀ q, q < 25 → op' q = or_ox (or_R x_lineClass x_lineLength x_objectClass x_specialiser ar p) p (or_sq (or_R x_lineClass x_lineLength x_objectClass x_specialiser ar p) p (or_L x_methodGeneric (or_R x_lineClass x_lineLength x_objectClass x_specialiser ar p) g p) q)) → post (x_classCount, x_superCount, x_objectCount, x_draftSpecialCount, x_state, x_stepCount, x_latestValue, x_enterGeneric, x_enterPlace, x_frameCount, x_operatorCount, x_valueCount, x_lineClass, x_lineLength, x_isSealed, x_classHasSlot, x_classSlot, x_superDraft, x_objectClass, x_objectHasSlot, x_objectSlot, x_parameterCount, x_methodGeneric, x_specialiser, x_tokenKind, x_tokenValue, x_tokenCount, x_argument, rk', op', x_frameMethod, x_framePlace, x_frameToken, x_frameOperators, x_frameArgument, x_operatorKind, x_operatorValue, x_operatorLeft, x_workedOut)) : wpX_findOrder post (x_classCount, x_superCount, x_objectCount, x_draftSpecialCount, x_state, x_stepCount, x_latestValue, x_enterGeneric, x_enterPlace, x_frameCount, x_operatorCount, x_valueCount, x_lineClass, x_lineLength, x_isSealed, x_classHasSlot, x_classSlot, x_superDraft, x_objectClass, x_objectHasSlot, x_objectSlot, x_parameterCount, x_methodGeneric, x_specialiser, x_tokenKind, x_tokenValue, x_tokenCount, x_argument, x_rank, x_orderPlace, x_frameMethod, x_framePlace, x_frameToken, x_frameOperators, x_frameArgument, x_operatorKind, x_operatorValue, x_operatorLeft, x_workedOut) (nI g) := by
  have hg := hW.2.2.2.1
  have hp3 := hW.2.2.2.2.2.1
  have ep := hW.2.2.2.2.2.2.1
  unfold wpX_findOrder
  refine loop_0 (σ := Int32 × (Nat → Int32)) (fun n i s => wX_findOrder_4 post (nI g) n s.1 (nI i) x_classCount x_superCount x_objectCount x_draftSpecialCount x_state x_stepCount x_latestValue x_enterGeneric x_enterPlace x_frameCount x_operatorCount x_valueCount x_lineClass x_lineLength x_isSealed x_classHasSlot x_classSlot x_superDraft x_objectClass x_objectHasSlot x_objectSlot x_parameterCount x_methodGeneric x_specialiser x_tokenKind x_tokenValue x_tokenCount x_argument s.2 x_orderPlace x_frameMethod x_framePlace x_frameToken x_frameOperators x_frameArgument x_operatorKind x_operatorValue x_operatorLeft x_workedOut) (fun i s => s.1 = or_ap (or_P x_methodGeneric (or_R x_lineClass x_lineLength x_objectClass x_specialiser ar p) g p) i ∧ ∀ m, m < i → or_P x_methodGeneric (or_R x_lineClass x_lineLength x_objectClass x_specialiser ar p) g p m → ∀ k, k < p → s.2 (3 * m + k) = or_R x_lineClass x_lineLength x_objectClass x_specialiser ar p m k) 24 (0, x_rank) ⟨rfl, lt_0⟩ ?_ ?_
  · rintro n ⟨s1, s2⟩ ⟨e1, hI⟩
    dsimp only at e1 hI
    subst e1
    refine br_t (nI_le (Nat.le_refl _) (by omega)) ?_
    refine mx_fo42 (R := or_R x_lineClass x_lineLength x_objectClass x_specialiser ar p) hg hp3 ep (fun q m hm hb => ?_) (fun op' ho => hp s2 op' ho)
    have hP := or_LF hm hb
    exact ⟨hP.1, hI m hm hP⟩
  · rintro n i ⟨s1, s2⟩ hi ⟨e1, hI⟩ k
    dsimp only at e1 hI
    subst e1
    refine br_f (nI_ge (b := 24) hi (by omega)) ⟨pk_in i 24 hi, ?_⟩
    rw [bs_clk (n := i) (by omega)]
    refine br_c (fun eg => ?_) (fun ng => nm_r (nI_1 i) (k (or_ap (or_P x_methodGeneric (or_R x_lineClass x_lineLength x_objectClass x_specialiser ar p) g p) i, s2) ⟨or_ap_f (fun z => ng z.1), lt_s hI (fun z => absurd z.1 ng)⟩))
    refine mx_rankMethod hW hi eg ha (fun rk' hf => ⟨fun happ hr => ?_, fun hn => ?_⟩)
    · refine br_f (by decide) (nm_r (e' := or_ap (or_P x_methodGeneric (or_R x_lineClass x_lineLength x_objectClass x_specialiser ar p) g p) (i + 1)) (or_ap_t ⟨eg, happ⟩) (nm_r (nI_1 i) (k (or_ap (or_P x_methodGeneric (or_R x_lineClass x_lineLength x_objectClass x_specialiser ar p) g p) (i + 1), rk') ⟨rfl, fun m hm hP j hj => ?_⟩)))
      dsimp only
      by_cases e : m = i
      · rw [e]; exact hr j hj
      · rw [hf _ (by omega)]; exact hI m (by omega) hP j hj
    · refine br_t rfl (nm_r (nI_1 i) (k (or_ap (or_P x_methodGeneric (or_R x_lineClass x_lineLength x_objectClass x_specialiser ar p) g p) i, rk') ⟨or_ap_f (fun z => hn z.2), fun m hm hP j hj => ?_⟩))
      dsimp only
      by_cases e : m = i
      · rw [e] at hP; exact absurd hP.2 hn
      · rw [hf _ (by omega)]; exact hI m (by omega) hP j hj
theorem my_so62 {post : SY → Prop} {nc no g p lv : Nat} {SP ar : Nat → Int64} {L : Int32} {R : Nat → Nat → Int32} (eR : R = or_R y_line y_lineLength y_classOfObject SP ar p) (hW : or_W nc no g p y_line y_lineLength y_classOfObject y_parameters ar) (hlv : lv < 8) (ha : ∀ k, k < p → y_arguments (3 * lv + k) = ar k) (hF : ∀ q m, m < 24 → or_bit (or_sq R p L q) m → y_generic m = nI g ∧ ∀ k, k < p → rl_sp nc no (SP (3 * m + k)) (y_single (3 * m + k)) (y_special (3 * m + k)))
    (hp : ∀ ch' mn' bk' : Nat → Int32, or_S R p L lv y_chosen y_many y_broken ch' mn' bk' → post (y_classes, y_supers, nI no, y_specials, y_depth, y_ops, y_held, y_fault, y_steps, y_shownSteps, y_result, y_line, y_lineLength, y_has, y_sealed, y_initial, y_drafted, y_draftHas, y_draftInitial, y_lists, y_listLength, y_gone, y_classOfObject, y_slots, y_parameters, y_generic, y_single, y_special, y_kind, y_tokens, y_with, y_methodAt, y_pc, ch', mn', y_reached, y_opsAt, bk', y_arguments, y_operands, y_operator, y_got)) : ∀ (d q : Nat) (ch mn bk : Nat → Int32), q + d = or_mn R p L → mn lv = nI q → bk lv = 0 → (∀ j, j < q → ch (24 * lv + j) = nI (or_ld R p (or_sq R p L j))) → (∀ f, f ≠ lv → mn f = y_many f ∧ bk f = y_broken f) → (∀ j, (j < 24 * lv ∨ 24 * lv + 24 ≤ j) → ch j = y_chosen j) → wY_sort_62 post (nI lv) y_classes y_supers (nI no) y_specials y_depth y_ops y_held y_fault y_steps y_shownSteps y_result (d + 2) (or_sq R p L q) y_line y_lineLength y_has y_sealed y_initial y_drafted y_draftHas y_draftInitial y_lists y_listLength y_gone y_classOfObject y_slots y_parameters y_generic y_single y_special y_kind y_tokens y_with y_methodAt y_pc ch mn y_reached y_opsAt bk y_arguments y_operands y_operator y_got := by
  have hle := or_mn_le R p L
  intro d
  induction d with
  | zero =>
    intro q ch mn bk hq hmn hbk hch hf hc
    have eq : q = or_mn R p L := by omega
    have hno := or_mn_no (R := R) (p := p) (L := L)
    rw [← eq] at hno
    refine br_c (fun z => ?_) (fun z => ⟨pk_in lv 8 hlv, ?_⟩)
    · refine hp ch mn bk ⟨by rw [hmn, eq], ?_, fun j hj => hch j (by omega), hf, hc⟩
      rw [← eq, bs_ct z, hbk]
    · rw [bs_clk (n := lv) (by omega)]
      refine br_t hbk ?_
      rw [bs_ml 3 lv]
      refine my_leader (SP := SP) hW (by omega) ha (hF q) ?_
      rw [← eR, bs_cf hno]
      refine br_f (by decide) ⟨pk_in lv 8 hlv, nm_r (e' := upd bk lv 1) (by rw [bs_clk (by omega), bs_z1]) (br_f (by decide) ?_)⟩
      refine br_f z ⟨pk_in lv 8 hlv, br_f (by rw [bs_clk (n := lv) (by omega), pk_us]; decide) ?_⟩
      refine hp ch mn (upd bk lv 1) ⟨by rw [hmn, eq], ?_, fun j hj => hch j (by omega), fun f hfl => ⟨(hf f hfl).1, by rw [pk_un hfl]; exact (hf f hfl).2⟩, hc⟩
      rw [← eq, bs_cf z, pk_us]
  | succ d ih =>
    intro q ch mn bk hq hmn hbk hch hf hc
    have hl := or_mn_lt (R := R) (p := p) (L := L) (q := q) (by omega)
    have hg := bs_fi_p (p := or_good R p (or_sq R p L q)) hl
    have hz : ¬ or_sq R p L q = 0 := by
      intro z
      have h1 := hg.1
      rw [z] at h1
      exact or_bit0 (m := or_ld R p 0) (by rw [z] at hl; omega) h1
    refine br_f hz ⟨pk_in lv 8 hlv, ?_⟩
    rw [bs_clk (n := lv) (by omega)]
    refine br_t hbk ?_
    rw [bs_ml 3 lv]
    refine my_leader (SP := SP) hW (by omega) ha (hF q) ?_
    rw [← eR, bs_ct hl]
    refine br_t (bs_ge0 (by omega)) ⟨pk_in lv 8 hlv, nm_r (e' := upd bk lv 0) (by rw [bs_clk (by omega), bs_z0]) (br_t (bs_ge0 (by omega)) ⟨pk_in lv 8 hlv, pk_in lv 8 hlv, nm_r (e' := upd mn lv (nI (q + 1))) ?_ ⟨?_, nm_r (e' := upd ch (24 * lv + q) (nI (or_ld R p (or_sq R p L q)))) ?_ (nm_r (e' := or_sq R p L (q + 1)) (or_sq_t hl) ?_)⟩⟩)⟩
    · rw [bs_clk (by omega), hmn, nI_1, bs_vb8 (by omega)]
    · rw [bs_clk (n := lv) (by omega), hmn]
      exact pk_in (24 * lv + q) 192 (by omega) (bs_ix 24 lv q)
    · rw [bs_clk (n := lv) (by omega), hmn, bs_ix 24 lv q, bs_clk (by omega), bs_vb8 (by omega)]
    · refine ih (q + 1) _ _ _ (by omega) pk_us pk_us (fun j hj => ?_) (fun f hfl => ?_) (fun j hj => ?_)
      · by_cases e : j = q
        · rw [e, pk_us]
        · rw [pk_un (by omega)]; exact hch j (by omega)
      · rw [pk_un hfl, pk_un hfl]; exact hf f hfl
      · rw [pk_un (by omega)]; exact hc j hj
theorem my_sort {post : SY → Prop} {nc no g p lv : Nat} {SP ar : Nat → Int64} {R : Nat → Nat → Int32} (eR : R = or_R y_line y_lineLength y_classOfObject SP ar p) (hW : or_W nc no g p y_line y_lineLength y_classOfObject y_parameters ar) (hlv : lv < 8) (ha : ∀ k, k < p → y_arguments (3 * lv + k) = ar k) (hs : ∀ m, m < 24 → y_generic m = nI g → ∀ k, k < p → rl_sp nc no (SP (3 * m + k)) (y_single (3 * m + k)) (y_special (3 * m + k)))
    (hp : ∀ ch' mn' bk' : Nat → Int32, or_S R p (or_L y_generic R g p) lv y_chosen y_many y_broken ch' mn' bk' → post (y_classes, y_supers, nI no, y_specials, y_depth, y_ops, y_held, y_fault, y_steps, y_shownSteps, y_result, y_line, y_lineLength, y_has, y_sealed, y_initial, y_drafted, y_draftHas, y_draftInitial, y_lists, y_listLength, y_gone, y_classOfObject, y_slots, y_parameters, y_generic, y_single, y_special, y_kind, y_tokens, y_with, y_methodAt, y_pc, ch', mn', y_reached, y_opsAt, bk', y_arguments, y_operands, y_operator, y_got)) : wpY_sort post (y_classes, y_supers, nI no, y_specials, y_depth, y_ops, y_held, y_fault, y_steps, y_shownSteps, y_result, y_line, y_lineLength, y_has, y_sealed, y_initial, y_drafted, y_draftHas, y_draftInitial, y_lists, y_listLength, y_gone, y_classOfObject, y_slots, y_parameters, y_generic, y_single, y_special, y_kind, y_tokens, y_with, y_methodAt, y_pc, y_chosen, y_many, y_reached, y_opsAt, y_broken, y_arguments, y_operands, y_operator, y_got) (nI g) (nI lv) := by
  unfold wpY_sort
  refine loop_0 (σ := Int32) (fun n i s => wY_sort_5 post (nI g) (nI lv) y_classes y_supers (nI no) y_specials y_depth y_ops y_held y_fault y_steps y_shownSteps y_result y_line y_lineLength y_has y_sealed y_initial y_drafted y_draftHas y_draftInitial y_lists y_listLength y_gone y_classOfObject y_slots y_parameters y_generic y_single y_special y_kind y_tokens y_with y_methodAt y_pc y_chosen y_many y_reached y_opsAt y_broken y_arguments y_operands y_operator y_got n s (nI i)) (fun i s => s = or_ap (or_P y_generic R g p) i) 24 0 rfl ?_ ?_
  · rintro n s rfl
    refine br_t (nI_le (Nat.le_refl _) (by omega)) ⟨pk_in lv 8 hlv, nm_r (e' := upd y_many lv 0) (by rw [bs_clk (by omega), bs_v0]) ⟨pk_in lv 8 hlv, nm_r (e' := upd y_broken lv 0) (by rw [bs_clk (by omega), bs_z0]) ⟨or_mn R p (or_L y_generic R g p) + 2, ?_⟩⟩⟩
    refine my_so62 (L := or_L y_generic R g p) eR hW hlv ha (fun q m hm hb => ?_) (fun ch' mn' bk' h => hp ch' mn' bk' h) (or_mn R p (or_L y_generic R g p)) 0 _ _ _ (by omega) pk_us pk_us lt_0 (fun f hfl => ?_) (fun j _ => rfl)
    · have hP := or_LF hm hb
      exact ⟨hP.1, hs m hm hP.1⟩
    · rw [pk_un hfl, pk_un hfl]; exact ⟨rfl, rfl⟩
  · rintro n i s hi rfl k
    refine br_f (nI_ge (b := 24) hi (by omega)) ⟨pk_in i 24 hi, ?_⟩
    rw [bs_clk (n := i) (by omega)]
    refine br_c (fun eg => ?_) (fun ng => nm_r (nI_1 i) (k _ (or_ap_f (fun z => ng z.1))))
    rw [bs_ml 3 lv]
    refine my_applicable (SP := SP) hW hi (by omega) eg ha (hs i hi eg) (fun happ => ?_) (fun hn => ?_)
    · rw [← eR] at happ
      exact br_f (by decide) (nm_r (e' := or_ap (or_P y_generic R g p) (i + 1)) (or_ap_t ⟨eg, happ⟩) (nm_r (nI_1 i) (k _ rfl)))
    · rw [← eR] at hn
      exact br_t rfl (nm_r (nI_1 i) (k _ (or_ap_f (fun z => hn z.2))))
theorem my_sortAside {post : SY → Prop} {nc no g p : Nat} {SP ar : Nat → Int64} {R : Nat → Nat → Int32} (eR : R = or_R y_line y_lineLength y_classOfObject SP ar p) (hW : or_W nc no g p y_line y_lineLength y_classOfObject y_parameters ar) (ha : ∀ k, k < p → y_arguments (24 + k) = ar k) (hs : ∀ m, m < 24 → y_generic m = nI g → ∀ k, k < p → rl_sp nc no (SP (3 * m + k)) (y_single (3 * m + k)) (y_special (3 * m + k)))
    (h1 : or_L y_generic R g p = 0 → post (y_classes, y_supers, nI no, y_specials, y_depth, y_ops, y_held, 1, y_steps, y_shownSteps, y_result, y_line, y_lineLength, y_has, y_sealed, y_initial, y_drafted, y_draftHas, y_draftInitial, y_lists, y_listLength, y_gone, y_classOfObject, y_slots, y_parameters, y_generic, y_single, y_special, y_kind, y_tokens, y_with, y_methodAt, y_pc, y_chosen, y_many, y_reached, y_opsAt, y_broken, y_arguments, y_operands, y_operator, y_got)) (h6 : ¬ or_L y_generic R g p = 0 → or_ld R p (or_L y_generic R g p) < 24 → post (y_classes, y_supers, nI no, y_specials, y_depth, y_ops, y_held, 6, y_steps, y_shownSteps, y_result, y_line, y_lineLength, y_has, y_sealed, y_initial, y_drafted, y_draftHas, y_draftInitial, y_lists, y_listLength, y_gone, y_classOfObject, y_slots, y_parameters, y_generic, y_single, y_special, y_kind, y_tokens, y_with, y_methodAt, y_pc, y_chosen, y_many, y_reached, y_opsAt, y_broken, y_arguments, y_operands, y_operator, y_got)) (h2 : ¬ or_L y_generic R g p = 0 → ¬ or_ld R p (or_L y_generic R g p) < 24 → post (y_classes, y_supers, nI no, y_specials, y_depth, y_ops, y_held, 2, y_steps, y_shownSteps, y_result, y_line, y_lineLength, y_has, y_sealed, y_initial, y_drafted, y_draftHas, y_draftInitial, y_lists, y_listLength, y_gone, y_classOfObject, y_slots, y_parameters, y_generic, y_single, y_special, y_kind, y_tokens, y_with, y_methodAt, y_pc, y_chosen, y_many, y_reached, y_opsAt, y_broken, y_arguments, y_operands, y_operator, y_got)) : wpY_sortAside post (y_classes, y_supers, nI no, y_specials, y_depth, y_ops, y_held, y_fault, y_steps, y_shownSteps, y_result, y_line, y_lineLength, y_has, y_sealed, y_initial, y_drafted, y_draftHas, y_draftInitial, y_lists, y_listLength, y_gone, y_classOfObject, y_slots, y_parameters, y_generic, y_single, y_special, y_kind, y_tokens, y_with, y_methodAt, y_pc, y_chosen, y_many, y_reached, y_opsAt, y_broken, y_arguments, y_operands, y_operator, y_got) (nI g) := by
  unfold wpY_sortAside
  refine loop_0 (σ := Int32) (fun n i s => wY_sortAside_4 post (nI g) y_classes y_supers (nI no) y_specials y_depth y_ops y_held y_fault y_steps y_shownSteps y_result y_line y_lineLength y_has y_sealed y_initial y_drafted y_draftHas y_draftInitial y_lists y_listLength y_gone y_classOfObject y_slots y_parameters y_generic y_single y_special y_kind y_tokens y_with y_methodAt y_pc y_chosen y_many y_reached y_opsAt y_broken y_arguments y_operands y_operator y_got n s (nI i)) (fun i s => s = or_ap (or_P y_generic R g p) i) 24 0 rfl ?_ ?_
  · rintro n s rfl
    refine br_t (nI_le (Nat.le_refl _) (by omega)) (br_c (fun z => h1 z) (fun z => ?_))
    refine my_leader (SP := SP) (fr := 24) (L := or_L y_generic R g p) hW (by omega) ha (fun m hm hb => ?_) ?_
    · have hP := or_LF (q := 0) hm hb
      exact ⟨hP.1, hs m hm hP.1⟩
    · rw [← eR]
      by_cases hl : or_ld R p (or_L y_generic R g p) < 24
      · rw [bs_ct hl]
        exact br_t (bs_ge0 (by omega)) (h6 z hl)
      · rw [bs_cf hl]
        exact br_f (by decide) (h2 z hl)
  · rintro n i s hi rfl k
    refine br_f (nI_ge (b := 24) hi (by omega)) ⟨pk_in i 24 hi, ?_⟩
    rw [bs_clk (n := i) (by omega)]
    refine br_c (fun eg => ?_) (fun ng => nm_r (nI_1 i) (k _ (or_ap_f (fun z => ng z.1))))
    refine my_applicable (SP := SP) (fr := 24) hW hi (by omega) eg ha (hs i hi eg) (fun happ => ?_) (fun hn => ?_)
    · rw [← eR] at happ
      exact br_f (by decide) (nm_r (e' := or_ap (or_P y_generic R g p) (i + 1)) (or_ap_t ⟨eg, happ⟩) (nm_r (nI_1 i) (k _ rfl)))
    · rw [← eR] at hn
      exact br_t rfl (nm_r (nI_1 i) (k _ (or_ap_f (fun z => hn z.2))))
end
