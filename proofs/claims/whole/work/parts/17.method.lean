/-! method -/
def me_cp (f : Nat → Int32) (b s t : Nat) : Nat → Int32 := fun j => if b ≤ j ∧ j < b + t then f (s + (j - b)) else f j
theorem me_cp_0 (f : Nat → Int32) (b s : Nat) : f = me_cp f b s 0 := by
  funext j
  exact (if_neg (by omega)).symm
theorem me_cp_n {f : Nat → Int32} {b s t j : Nat} (h : j < b ∨ b + t ≤ j) : me_cp f b s t j = f j := if_neg (by omega)
theorem me_cp_i {f : Nat → Int32} {b s t i : Nat} (h : i < t) : me_cp f b s t (b + i) = f (s + i) := by
  unfold me_cp
  rw [if_pos (by omega), show b + i - b = i by omega]
theorem me_cp_s {f : Nat → Int32} {b s i : Nat} : upd (me_cp f b s i) (b + i) (f (s + i)) = me_cp f b s (i + 1) := by
  funext j
  by_cases e : j = b + i
  · rw [e, pk_us, me_cp_i (by omega)]
  · rw [pk_un e]
    unfold me_cp
    by_cases h : b ≤ j ∧ j < b + i
    · rw [if_pos h, if_pos (by omega)]
    · rw [if_neg h, if_neg (by omega)]
def me_so (PC TK TV : Nat → Int32) (p nd t : Nat) : Prop := nd = p ∧ (∀ i, i < t → TK (384 + i) = 1 → ∃ a, a < p ∧ TV (384 + i) = nI a) ∧ rl_pn (rl_am PC TK TV 24) t 0 1
def me_sm (MG : Nat → Int32) (SP : Nat → Int64) (g nd m : Nat) : Prop := MG m = nI g ∧ ∀ k, k < nd → SP (3 * m + k) = SP (72 + k)
def me_PX (SP SP' : Nat → Int64) (m nd : Nat) : Prop := (∀ j, (j < 3 * m ∨ 3 * m + 3 ≤ j) → SP' j = SP j) ∧ ∀ k, k < nd → SP' (3 * m + k) = SP (72 + k)
def me_PY (SI SI' : Nat → Int32) (SG SG' : Nat → Int64) (m nd i : Nat) : Prop := (∀ j, (j < 3 * m ∨ 3 * m + 3 ≤ j) → SI' j = SI j ∧ SG' j = SG j) ∧ ∀ k, k < i → k < nd → SI' (3 * m + k) = SI (72 + k) ∧ SG' (3 * m + k) = SG (72 + k)
section
variable {x_classCount : Int32} {x_superCount : Int32} {x_objectCount : Int32} {x_draftSpecialCount : Int32} {x_state : Int32} {x_stepCount : Int32} {x_latestValue : Int64} {x_enterGeneric : Int32} {x_enterPlace : Int32} {x_frameCount : Int32} {x_operatorCount : Int32} {x_valueCount : Int32} {x_lineClass : Nat → Int32} {x_lineLength : Nat → Int32} {x_isSealed : Nat → Int32} {x_classHasSlot : Nat → Int32} {x_classSlot : Nat → Int32} {x_superDraft : Nat → Int32} {x_objectClass : Nat → Int32} {x_objectHasSlot : Nat → Int32} {x_objectSlot : Nat → Int64} {x_parameterCount : Nat → Int32} {x_methodGeneric : Nat → Int32} {x_specialiser : Nat → Int64} {x_tokenKind : Nat → Int32} {x_tokenValue : Nat → Int32} {x_tokenCount : Nat → Int32} {x_argument : Nat → Int64} {x_rank : Nat → Int32} {x_orderPlace : Nat → Int32} {x_frameMethod : Nat → Int32} {x_framePlace : Nat → Int32} {x_frameToken : Nat → Int32} {x_frameOperators : Nat → Int32} {x_frameArgument : Nat → Int64} {x_operatorKind : Nat → Int32} {x_operatorValue : Nat → Int32} {x_operatorLeft : Nat → Int32} {x_workedOut : Nat → Int64} {y_classes : Int32} {y_supers : Int32} {y_objects : Int32} {y_specials : Int32} {y_depth : Int32} {y_ops : Int32} {y_held : Int32} {y_fault : Int32} {y_steps : Int32} {y_shownSteps : Int32} {y_result : Int64} {y_line : Nat → Int32} {y_lineLength : Nat → Int32} {y_has : Nat → Int32} {y_sealed : Nat → Int32} {y_initial : Nat → Int32} {y_drafted : Nat → Int32} {y_draftHas : Nat → Int32} {y_draftInitial : Nat → Int32} {y_lists : Nat → Int32} {y_listLength : Nat → Int32} {y_gone : Nat → Int32} {y_classOfObject : Nat → Int32} {y_slots : Nat → Int64} {y_parameters : Nat → Int32} {y_generic : Nat → Int32} {y_single : Nat → Int32} {y_special : Nat → Int64} {y_kind : Nat → Int32} {y_tokens : Nat → Int32} {y_with : Nat → Int32} {y_methodAt : Nat → Int32} {y_pc : Nat → Int32} {y_chosen : Nat → Int32} {y_many : Nat → Int32} {y_reached : Nat → Int32} {y_opsAt : Nat → Int32} {y_broken : Nat → Int32} {y_arguments : Nat → Int64} {y_operands : Nat → Int64} {y_operator : Nat → Int32} {y_got : Nat → Int32}
theorem mx_isDraftSound {post : Int32 → Prop} {nc nd g p t : Nat} (hg : g < 5) (hnd : nd ≤ 3) (hp3 : p ≤ 3) (ep : x_parameterCount g = nI p) (hpar : rl_par x_parameterCount) (ht : t ≤ 16) (et : x_tokenCount 24 = nI t) (hk : ∀ i, i < t → rl_tk nc (x_tokenKind (16 * 24 + i)) (x_tokenValue (16 * 24 + i))) (h1 : me_so x_parameterCount x_tokenKind x_tokenValue p nd t → post 1) (h0 : ¬ me_so x_parameterCount x_tokenKind x_tokenValue p nd t → post 0) : wpX_isDraftSound post (x_classCount, x_superCount, x_objectCount, nI nd, x_state, x_stepCount, x_latestValue, x_enterGeneric, x_enterPlace, x_frameCount, x_operatorCount, x_valueCount, x_lineClass, x_lineLength, x_isSealed, x_classHasSlot, x_classSlot, x_superDraft, x_objectClass, x_objectHasSlot, x_objectSlot, x_parameterCount, x_methodGeneric, x_specialiser, x_tokenKind, x_tokenValue, x_tokenCount, x_argument, x_rank, x_orderPlace, x_frameMethod, x_framePlace, x_frameToken, x_frameOperators, x_frameArgument, x_operatorKind, x_operatorValue, x_operatorLeft, x_workedOut) (nI g) := by
  unfold wpX_isDraftSound
  refine ⟨pk_in g 5 hg, ?_⟩
  rw [bs_clk (n := g) (by omega), ep]
  refine pk_eq nd p (fun e => ?_) (fun e => h0 (fun z => e z.1))
  refine loop_0 (σ := Unit) (fun n i _ => wX_isDraftSound_17 post (nI g) x_classCount x_superCount x_objectCount (nI nd) x_state x_stepCount x_latestValue x_enterGeneric x_enterPlace x_frameCount x_operatorCount x_valueCount x_lineClass x_lineLength x_isSealed x_classHasSlot x_classSlot x_superDraft x_objectClass x_objectHasSlot x_objectSlot x_parameterCount x_methodGeneric x_specialiser x_tokenKind x_tokenValue x_tokenCount x_argument x_rank x_orderPlace x_frameMethod x_framePlace x_frameToken x_frameOperators x_frameArgument x_operatorKind x_operatorValue x_operatorLeft x_workedOut n (nI i)) (fun i _ => ∀ j, j < i → x_tokenKind (384 + j) = 1 → ∃ a, a < p ∧ x_tokenValue (384 + j) = nI a) t () lt_0 ?_ ?_
  · intro n _ hI
    unfold wX_isDraftSound_17
    rw [et]
    refine br_t (nI_le (Nat.le_refl _) (by omega)) ?_
    unfold wpX_endOfExpression
    by_cases hq : rl_pn (rl_am x_parameterCount x_tokenKind x_tokenValue 24) t 0 1
    · refine ⟨t, mx_endA (m := 24) (t := t) (by omega) hpar ht et hk t 0 1 (by omega) (by omega) (by omega) hq ?_⟩
      rw [Nat.zero_add]
      exact br_t rfl (h1 ⟨e, hI, hq⟩)
    · refine ⟨t + 1, mx_endB (m := 24) (t := t) (by omega) hpar ht et hk (fun r hr => ?_) t 0 1 (by omega) (by omega) (by omega) hq⟩
      exact br_f hr (h0 (fun z => hq z.2.2))
  · intro n i _ hi hI k
    unfold wX_isDraftSound_17
    rw [et]
    refine br_f (nI_ge hi (by omega)) (nm_r (bs_ad 384 i) ⟨pk_in (384 + i) 400 (by omega), ?_⟩)
    rw [bs_clk (n := 384 + i) (by omega), bs_clk (n := g) (by omega), ep]
    refine br_c (fun e1 => ⟨pk_in (384 + i) 400 (by omega), pk_in g 5 hg, ?_⟩) (fun ne => nm_r (nI_1 i) (k () (lt_s hI (fun z => absurd z ne))))
    obtain ⟨q, hq, eq, hq1, _⟩ := hk i hi
    have e1' : x_tokenKind (16 * 24 + i) = nI 1 := e1
    rw [e1'] at eq
    obtain ⟨a, ha, ea⟩ := hq1 (bs_inj (by omega) (by omega) eq).symm
    have ea' : x_tokenValue (384 + i) = nI a := ea
    rw [ea']
    refine pk_lt a p (fun h => nm_r (nI_1 i) (k () (lt_s hI (fun _ => ⟨a, h, ea'⟩)))) (fun h => h0 (fun z => ?_))
    obtain ⟨b, hb, eb⟩ := z.2.1 i hi e1
    rw [ea'] at eb
    have := bs_inj (by omega) (by omega) eb
    omega
theorem mx_hasDraftSpecials {post : Int32 → Prop} {nd m : Nat} (hm : m < 24) (hnd : nd ≤ 3) (h1 : (∀ k, k < nd → x_specialiser (3 * m + k) = x_specialiser (72 + k)) → post 1) (h0 : (¬ ∀ k, k < nd → x_specialiser (3 * m + k) = x_specialiser (72 + k)) → post 0) : wpX_hasDraftSpecials post (x_classCount, x_superCount, x_objectCount, nI nd, x_state, x_stepCount, x_latestValue, x_enterGeneric, x_enterPlace, x_frameCount, x_operatorCount, x_valueCount, x_lineClass, x_lineLength, x_isSealed, x_classHasSlot, x_classSlot, x_superDraft, x_objectClass, x_objectHasSlot, x_objectSlot, x_parameterCount, x_methodGeneric, x_specialiser, x_tokenKind, x_tokenValue, x_tokenCount, x_argument, x_rank, x_orderPlace, x_frameMethod, x_framePlace, x_frameToken, x_frameOperators, x_frameArgument, x_operatorKind, x_operatorValue, x_operatorLeft, x_workedOut) (nI m) := by
  unfold wpX_hasDraftSpecials
  refine loop_0 (σ := Unit) (fun n i _ => wX_hasDraftSpecials_2 post (nI m) x_classCount x_superCount x_objectCount (nI nd) x_state x_stepCount x_latestValue x_enterGeneric x_enterPlace x_frameCount x_operatorCount x_valueCount x_lineClass x_lineLength x_isSealed x_classHasSlot x_classSlot x_superDraft x_objectClass x_objectHasSlot x_objectSlot x_parameterCount x_methodGeneric x_specialiser x_tokenKind x_tokenValue x_tokenCount x_argument x_rank x_orderPlace x_frameMethod x_framePlace x_frameToken x_frameOperators x_frameArgument x_operatorKind x_operatorValue x_operatorLeft x_workedOut n (nI i)) (fun i _ => ∀ j, j < i → x_specialiser (3 * m + j) = x_specialiser (72 + j)) nd () lt_0 ?_ ?_
  · intro n _ hI
    exact br_t (nI_le (Nat.le_refl _) (by omega)) (h1 hI)
  · intro n i _ hi hI k
    refine br_f (nI_ge hi (by omega)) ⟨pk_in (3 * m + i) 75 (by omega) (bs_xi 3 m i), pk_in (72 + i) 75 (by omega) (bs_ad 72 i), ?_⟩
    rw [bs_xi 3 m i, bs_ad 72 i, bs_clk (n := 3 * m + i) (by omega), bs_clk (n := 72 + i) (by omega)]
    exact br_c (fun e => nm_r (nI_1 i) (k () (lt_s hI e))) (fun e => h0 (fun z => e (z i hi)))
theorem mx_placeForDraft {post : Int32 → Prop} {nd g : Nat} (hg : g < 5) (hnd : nd ≤ 3) (h1 : ∀ m, m < 24 → me_sm x_methodGeneric x_specialiser g nd m → post (nI m)) (h2 : (∀ m, m < 24 → ¬ me_sm x_methodGeneric x_specialiser g nd m) → ∀ f, f < 24 → x_methodGeneric f = -1 → (∀ j, j < f → ¬ x_methodGeneric j = -1) → post (nI f)) (h3 : (∀ m, m < 24 → ¬ me_sm x_methodGeneric x_specialiser g nd m) → (∀ m, m < 24 → ¬ x_methodGeneric m = -1) → post (-1)) : wpX_placeForDraft post (x_classCount, x_superCount, x_objectCount, nI nd, x_state, x_stepCount, x_latestValue, x_enterGeneric, x_enterPlace, x_frameCount, x_operatorCount, x_valueCount, x_lineClass, x_lineLength, x_isSealed, x_classHasSlot, x_classSlot, x_superDraft, x_objectClass, x_objectHasSlot, x_objectSlot, x_parameterCount, x_methodGeneric, x_specialiser, x_tokenKind, x_tokenValue, x_tokenCount, x_argument, x_rank, x_orderPlace, x_frameMethod, x_framePlace, x_frameToken, x_frameOperators, x_frameArgument, x_operatorKind, x_operatorValue, x_operatorLeft, x_workedOut) (nI g) := by
  unfold wpX_placeForDraft
  refine loop_0 (σ := Int32) (fun n i s => wX_placeForDraft_4 post (nI g) x_classCount x_superCount x_objectCount (nI nd) x_state x_stepCount x_latestValue x_enterGeneric x_enterPlace x_frameCount x_operatorCount x_valueCount x_lineClass x_lineLength x_isSealed x_classHasSlot x_classSlot x_superDraft x_objectClass x_objectHasSlot x_objectSlot x_parameterCount x_methodGeneric x_specialiser x_tokenKind x_tokenValue x_tokenCount x_argument x_rank x_orderPlace x_frameMethod x_framePlace x_frameToken x_frameOperators x_frameArgument x_operatorKind x_operatorValue x_operatorLeft x_workedOut n s (nI i)) (fun i s => (∀ j, j < i → ¬ me_sm x_methodGeneric x_specialiser g nd j) ∧ ((s = -1 ∧ ∀ j, j < i → ¬ x_methodGeneric j = -1) ∨ ∃ f, f < i ∧ s = nI f ∧ x_methodGeneric f = -1 ∧ ∀ j, j < f → ¬ x_methodGeneric j = -1)) 24 (-1) ⟨lt_0, Or.inl ⟨rfl, lt_0⟩⟩ ?_ ?_
  · rintro n s ⟨hI, (⟨rfl, h⟩ | ⟨f, hf, rfl, h, hj⟩)⟩
    · exact br_t (nI_le (Nat.le_refl _) (by omega)) (h3 hI h)
    · exact br_t (nI_le (Nat.le_refl _) (by omega)) (h2 hI f hf h hj)
  · rintro n i s hi ⟨hI, hS⟩ k
    refine br_f (nI_ge (b := 24) hi (by omega)) ⟨pk_in i 24 hi, ?_⟩
    have go : ¬ me_sm x_methodGeneric x_specialiser g nd i → wX_placeForDraft_30 post (wX_placeForDraft_4 post (nI g) x_classCount x_superCount x_objectCount (nI nd) x_state x_stepCount x_latestValue x_enterGeneric x_enterPlace x_frameCount x_operatorCount x_valueCount x_lineClass x_lineLength x_isSealed x_classHasSlot x_classSlot x_superDraft x_objectClass x_objectHasSlot x_objectSlot x_parameterCount x_methodGeneric x_specialiser x_tokenKind x_tokenValue x_tokenCount x_argument x_rank x_orderPlace x_frameMethod x_framePlace x_frameToken x_frameOperators x_frameArgument x_operatorKind x_operatorValue x_operatorLeft x_workedOut n) (nI g) s (nI i) x_classCount x_superCount x_objectCount (nI nd) x_state x_stepCount x_latestValue x_enterGeneric x_enterPlace x_frameCount x_operatorCount x_valueCount x_lineClass x_lineLength x_isSealed x_classHasSlot x_classSlot x_superDraft x_objectClass x_objectHasSlot x_objectSlot x_parameterCount x_methodGeneric x_specialiser x_tokenKind x_tokenValue x_tokenCount x_argument x_rank x_orderPlace x_frameMethod x_framePlace x_frameToken x_frameOperators x_frameArgument x_operatorKind x_operatorValue x_operatorLeft x_workedOut := by
      intro hns
      rcases hS with ⟨rfl, h⟩ | ⟨f, hf, rfl, h, hj⟩
      · refine br_t rfl ⟨pk_in i 24 hi, ?_⟩
        rw [bs_clk (n := i) (by omega)]
        refine br_c (fun e => nm_r (nI_1 i) (k (nI i) ⟨lt_s hI hns, Or.inr ⟨i, by omega, rfl, e, h⟩⟩)) (fun e => nm_r (nI_1 i) (k (-1) ⟨lt_s hI hns, Or.inl ⟨rfl, lt_s h e⟩⟩))
      · exact br_f (bs_n1 (by omega)) (nm_r (nI_1 i) (k (nI f) ⟨lt_s hI hns, Or.inr ⟨f, by omega, rfl, h, hj⟩⟩))
    refine br_c (fun e => ?_) (fun e => go (fun z => e (by rw [bs_clk (n := i) (by omega)]; exact z.1)))
    have e' : x_methodGeneric i = nI g := by rw [bs_clk (n := i) (by omega)] at e; exact e
    exact mx_hasDraftSpecials hi hnd (fun h => br_f (by decide) (h1 i hi ⟨e', h⟩)) (fun h => br_t rfl (go (fun z => h z.2)))
theorem mx_copyDraft {post : SX → Prop} {nc nd g m t : Nat} (hg : g < 5) (hm : m < 24) (hnd : nd ≤ 3) (ht : t ≤ 16) (et : x_tokenCount 24 = nI t) (hp : ∀ SP' : Nat → Int64, me_PX x_specialiser SP' m nd → post (x_classCount, x_superCount, x_objectCount, nI nd, x_state, x_stepCount, x_latestValue, x_enterGeneric, x_enterPlace, x_frameCount, x_operatorCount, x_valueCount, x_lineClass, x_lineLength, x_isSealed, x_classHasSlot, x_classSlot, x_superDraft, x_objectClass, x_objectHasSlot, x_objectSlot, x_parameterCount, upd x_methodGeneric m (nI g), SP', me_cp x_tokenKind (16 * m) 384 t, me_cp x_tokenValue (16 * m) 384 t, upd x_tokenCount m (nI t), x_argument, x_rank, x_orderPlace, x_frameMethod, x_framePlace, x_frameToken, x_frameOperators, x_frameArgument, x_operatorKind, x_operatorValue, x_operatorLeft, x_workedOut)) : wpX_copyDraft post (x_classCount, x_superCount, x_objectCount, nI nd, x_state, x_stepCount, x_latestValue, x_enterGeneric, x_enterPlace, x_frameCount, x_operatorCount, x_valueCount, x_lineClass, x_lineLength, x_isSealed, x_classHasSlot, x_classSlot, x_superDraft, x_objectClass, x_objectHasSlot, x_objectSlot, x_parameterCount, x_methodGeneric, x_specialiser, x_tokenKind, x_tokenValue, x_tokenCount, x_argument, x_rank, x_orderPlace, x_frameMethod, x_framePlace, x_frameToken, x_frameOperators, x_frameArgument, x_operatorKind, x_operatorValue, x_operatorLeft, x_workedOut) (nI m) (nI g) := by
  unfold wpX_copyDraft
  refine ⟨pk_in m 24 hm, nm_r (e' := upd x_methodGeneric m (nI g)) (by rw [bs_clk (by omega)]) ?_⟩
  refine loop_0 (σ := Nat → Int64) (fun n i s => wX_copyDraft_9 post (nI m) x_classCount x_superCount x_objectCount (nI nd) x_state x_stepCount x_latestValue x_enterGeneric x_enterPlace x_frameCount x_operatorCount x_valueCount n (nI i) x_lineClass x_lineLength x_isSealed x_classHasSlot x_classSlot x_superDraft x_objectClass x_objectHasSlot x_objectSlot x_parameterCount (upd x_methodGeneric m (nI g)) s x_tokenKind x_tokenValue x_tokenCount x_argument x_rank x_orderPlace x_frameMethod x_framePlace x_frameToken x_frameOperators x_frameArgument x_operatorKind x_operatorValue x_operatorLeft x_workedOut) (fun i s => me_PX x_specialiser s m i) nd x_specialiser ⟨fun _ _ => rfl, lt_0⟩ ?_ ?_
  · intro n s hI
    refine br_t (nI_le (Nat.le_refl _) (by omega)) ⟨pk_in m 25 (by omega), nm_r (e' := upd x_tokenCount m (nI t)) (by rw [bs_clk (by omega), et]) ?_⟩
    have et' : upd x_tokenCount m (nI t) 24 = nI t := by rw [pk_un (by omega)]; exact et
    refine loop_0 (σ := (Nat → Int32) × (Nat → Int32)) (fun n i s2 => wX_copyDraft_57 post (nI m) x_classCount x_superCount x_objectCount (nI nd) x_state x_stepCount x_latestValue x_enterGeneric x_enterPlace x_frameCount x_operatorCount x_valueCount n (nI i) x_lineClass x_lineLength x_isSealed x_classHasSlot x_classSlot x_superDraft x_objectClass x_objectHasSlot x_objectSlot x_parameterCount (upd x_methodGeneric m (nI g)) s s2.1 s2.2 (upd x_tokenCount m (nI t)) x_argument x_rank x_orderPlace x_frameMethod x_framePlace x_frameToken x_frameOperators x_frameArgument x_operatorKind x_operatorValue x_operatorLeft x_workedOut) (fun i s2 => s2 = (me_cp x_tokenKind (16 * m) 384 i, me_cp x_tokenValue (16 * m) 384 i)) t (x_tokenKind, x_tokenValue) (by rw [← me_cp_0, ← me_cp_0]) ?_ ?_
    · rintro n s2 rfl
      unfold wX_copyDraft_57
      rw [et']
      exact br_t (nI_le (Nat.le_refl _) (by omega)) (hp s hI)
    · rintro n i s2 hi rfl k
      unfold wX_copyDraft_57
      rw [et']
      refine br_f (nI_ge hi (by omega)) ⟨pk_in (384 + i) 400 (by omega) (bs_ad 384 i), pk_in (16 * m + i) 400 (by omega) (bs_xi 16 m i), nm_r (e' := me_cp x_tokenKind (16 * m) 384 (i + 1)) ?_ ⟨pk_in (384 + i) 400 (by omega) (bs_ad 384 i), pk_in (16 * m + i) 400 (by omega) (bs_xi 16 m i), nm_r (e' := me_cp x_tokenValue (16 * m) 384 (i + 1)) ?_ (nm_r (nI_1 i) (k _ rfl))⟩⟩
      · dsimp only
        rw [bs_xi 16 m i, bs_ad 384 i, bs_clk (by omega), bs_clk (by omega), me_cp_n (j := 384 + i) (by omega), me_cp_s]
      · dsimp only
        rw [bs_xi 16 m i, bs_ad 384 i, bs_clk (by omega), bs_clk (by omega), me_cp_n (j := 384 + i) (by omega), me_cp_s]
  · intro n i s hi hI k
    refine br_f (nI_ge hi (by omega)) ⟨pk_in (72 + i) 75 (by omega) (bs_ad 72 i), pk_in (3 * m + i) 75 (by omega) (bs_xi 3 m i), nm_r (e' := vp_updL s (3 * m + i) (x_specialiser (72 + i))) ?_ (nm_r (nI_1 i) (k (vp_updL s (3 * m + i) (x_specialiser (72 + i))) ⟨fun j hj => ?_, fun q hq => ?_⟩))⟩
    · rw [bs_xi 3 m i, bs_ad 72 i, bs_clk (by omega), bs_clk (by omega), hI.1 (72 + i) (by omega)]
    · rw [pk_uLn (by omega)]; exact hI.1 j hj
    · by_cases e : q = i
      · rw [e, pk_uLs]
      · rw [pk_uLn (by omega)]; exact hI.2 q (by omega)
end
theorem me_vne {nc no : Nat} {c : Nat} {v : Int64} (hno : no ≤ 20) (hc : c < 16) (hv : rl_val no v) : ¬ lN (8589934592 + c) = v := by
  rintro rfl
  rcases hv with hi | ⟨q, hq, e⟩
  · have h1 := cl_il hi
    rw [ob_K, pk_lLT (by omega) (by omega)] at h1
    omega
  · exact cl_c c q hc (by omega) e
theorem me_eq {nc no : Nat} (hnc : nc ≤ 16) (hno : no ≤ 20) {sp sp' sg sg' : Int64} {si si' : Int32} (h : rl_sp nc no sp si sg) (h' : rl_sp nc no sp' si' sg') : sp = sp' ↔ (si = si' ∧ sg = sg') := by
  rcases h with ⟨rfl, c, hc, rfl, rfl⟩ | ⟨rfl, rfl, hv⟩
  · rcases h' with ⟨rfl, c', hc', rfl, rfl⟩ | ⟨rfl, rfl, hv'⟩
    · rw [pk_lEQ (by omega) (by omega), pk_lEQ (by omega) (by omega)]
      constructor
      · intro z; exact ⟨rfl, by omega⟩
      · rintro ⟨_, z⟩; omega
    · exact ⟨fun z => absurd z (me_vne (nc := nc) hno (by omega) hv'), fun z => absurd z.1 (by decide)⟩
  · rcases h' with ⟨rfl, c', hc', rfl, rfl⟩ | ⟨rfl, rfl, hv'⟩
    · exact ⟨fun z => absurd z.symm (me_vne (nc := nc) hno (by omega) hv), fun z => absurd z.1 (by decide)⟩
    · exact ⟨fun z => ⟨rfl, z⟩, fun z => z.2⟩
