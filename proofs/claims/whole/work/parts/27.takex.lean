/-! X: values taken -/
section
variable {x_classCount : Int32} {x_superCount : Int32} {x_objectCount : Int32} {x_draftSpecialCount : Int32} {x_state : Int32} {x_stepCount : Int32} {x_latestValue : Int64} {x_enterGeneric : Int32} {x_enterPlace : Int32} {x_frameCount : Int32} {x_operatorCount : Int32} {x_valueCount : Int32} {x_lineClass : Nat → Int32} {x_lineLength : Nat → Int32} {x_isSealed : Nat → Int32} {x_classHasSlot : Nat → Int32} {x_classSlot : Nat → Int32} {x_superDraft : Nat → Int32} {x_objectClass : Nat → Int32} {x_objectHasSlot : Nat → Int32} {x_objectSlot : Nat → Int64} {x_parameterCount : Nat → Int32} {x_methodGeneric : Nat → Int32} {x_specialiser : Nat → Int64} {x_tokenKind : Nat → Int32} {x_tokenValue : Nat → Int32} {x_tokenCount : Nat → Int32} {x_argument : Nat → Int64} {x_rank : Nat → Int32} {x_orderPlace : Nat → Int32} {x_frameMethod : Nat → Int32} {x_framePlace : Nat → Int32} {x_frameToken : Nat → Int32} {x_frameOperators : Nat → Int32} {x_frameArgument : Nat → Int64} {x_operatorKind : Nat → Int32} {x_operatorValue : Nat → Int32} {x_operatorLeft : Nat → Int32} {x_workedOut : Nat → Int64}
theorem mx_endOf {post : Int32 → Prop} {nc m t pc s : Nat} (hm : m < 25) (hpar : rl_par x_parameterCount) (ht : t ≤ 16) (et : x_tokenCount m = nI t) (hk : ∀ i, i < t → rl_tk nc (x_tokenKind (16 * m + i)) (x_tokenValue (16 * m + i))) (hs : pc + s ≤ t) (h : rl_pn (rl_am x_parameterCount x_tokenKind x_tokenValue m) s pc 1) (hp : post (nI (pc + s))) : wpX_endOfExpression post (x_classCount, x_superCount, x_objectCount, x_draftSpecialCount, x_state, x_stepCount, x_latestValue, x_enterGeneric, x_enterPlace, x_frameCount, x_operatorCount, x_valueCount, x_lineClass, x_lineLength, x_isSealed, x_classHasSlot, x_classSlot, x_superDraft, x_objectClass, x_objectHasSlot, x_objectSlot, x_parameterCount, x_methodGeneric, x_specialiser, x_tokenKind, x_tokenValue, x_tokenCount, x_argument, x_rank, x_orderPlace, x_frameMethod, x_framePlace, x_frameToken, x_frameOperators, x_frameArgument, x_operatorKind, x_operatorValue, x_operatorLeft, x_workedOut) (nI m) (nI pc) := by
  unfold wpX_endOfExpression
  exact ⟨s, mx_endA hm hpar ht et hk s pc 1 (by omega) (by omega) hs h hp⟩
theorem mx_tk_leave {post : SX → Prop} {d oc : Nat} (hd : d < 8) (hoc : oc < 1000) (eO : x_frameOperators d = nI oc) (h0 : d = 0 → post (x_classCount, x_superCount, x_objectCount, x_draftSpecialCount, 0, x_stepCount, x_workedOut 0, x_enterGeneric, x_enterPlace, nI 0, nI oc, x_valueCount, x_lineClass, x_lineLength, x_isSealed, x_classHasSlot, x_classSlot, x_superDraft, x_objectClass, x_objectHasSlot, x_objectSlot, x_parameterCount, x_methodGeneric, x_specialiser, x_tokenKind, x_tokenValue, x_tokenCount, x_argument, x_rank, x_orderPlace, x_frameMethod, x_framePlace, x_frameToken, x_frameOperators, x_frameArgument, x_operatorKind, x_operatorValue, x_operatorLeft, x_workedOut)) (hp : d ≠ 0 → post (x_classCount, x_superCount, x_objectCount, x_draftSpecialCount, x_state, x_stepCount, x_latestValue, x_enterGeneric, x_enterPlace, nI d, nI oc, x_valueCount, x_lineClass, x_lineLength, x_isSealed, x_classHasSlot, x_classSlot, x_superDraft, x_objectClass, x_objectHasSlot, x_objectSlot, x_parameterCount, x_methodGeneric, x_specialiser, x_tokenKind, x_tokenValue, x_tokenCount, x_argument, x_rank, x_orderPlace, x_frameMethod, x_framePlace, x_frameToken, x_frameOperators, x_frameArgument, x_operatorKind, x_operatorValue, x_operatorLeft, x_workedOut)) : wpX_takeValue post (x_classCount, x_superCount, x_objectCount, x_draftSpecialCount, x_state, x_stepCount, x_latestValue, x_enterGeneric, x_enterPlace, nI (d + 1), nI oc, x_valueCount, x_lineClass, x_lineLength, x_isSealed, x_classHasSlot, x_classSlot, x_superDraft, x_objectClass, x_objectHasSlot, x_objectSlot, x_parameterCount, x_methodGeneric, x_specialiser, x_tokenKind, x_tokenValue, x_tokenCount, x_argument, x_rank, x_orderPlace, x_frameMethod, x_framePlace, x_frameToken, x_frameOperators, x_frameArgument, x_operatorKind, x_operatorValue, x_operatorLeft, x_workedOut) := by
  unfold wpX_takeValue
  refine nm_r (nI_pred d) ⟨pk_in d 8 hd, ?_⟩
  rw [bs_clk (n := d) (by omega), eO]
  refine br_t rfl ?_
  unfold wpX_leaveFrame
  refine nm_r (nI_pred d) (pk_eq d 0 (fun e => nm_e ?_) (fun e => hp e))
  subst e
  exact h0 rfl
theorem mx_tk_seq {post : SX → Prop} {d t fo : Nat} (hd : d < 8) (ht : t < 120) (hfo : fo ≤ t) (eO : x_frameOperators d = nI fo) {vc lf : Nat} (eK : x_operatorKind t = nI 10) (eL : x_operatorLeft t = nI (lf + 1)) (hp : post (x_classCount, x_superCount, x_objectCount, x_draftSpecialCount, -2, x_stepCount, x_latestValue, x_enterGeneric, x_enterPlace, nI (d + 1), nI t, nI vc, x_lineClass, x_lineLength, x_isSealed, x_classHasSlot, x_classSlot, x_superDraft, x_objectClass, x_objectHasSlot, x_objectSlot, x_parameterCount, x_methodGeneric, x_specialiser, x_tokenKind, x_tokenValue, x_tokenCount, x_argument, x_rank, x_orderPlace, x_frameMethod, x_framePlace, x_frameToken, x_frameOperators, x_frameArgument, x_operatorKind, x_operatorValue, upd x_operatorLeft t (nI lf), x_workedOut)) : wpX_takeValue post (x_classCount, x_superCount, x_objectCount, x_draftSpecialCount, x_state, x_stepCount, x_latestValue, x_enterGeneric, x_enterPlace, nI (d + 1), nI (t + 1), nI (vc + 1), x_lineClass, x_lineLength, x_isSealed, x_classHasSlot, x_classSlot, x_superDraft, x_objectClass, x_objectHasSlot, x_objectSlot, x_parameterCount, x_methodGeneric, x_specialiser, x_tokenKind, x_tokenValue, x_tokenCount, x_argument, x_rank, x_orderPlace, x_frameMethod, x_framePlace, x_frameToken, x_frameOperators, x_frameArgument, x_operatorKind, x_operatorValue, x_operatorLeft, x_workedOut) := by
  unfold wpX_takeValue
  refine nm_r (nI_pred d) ⟨pk_in d 8 hd, ?_⟩
  rw [bs_clk (n := d) (by omega), eO]
  refine pk_eq (t + 1) fo (fun e => by omega) (fun _ => nm_r (nI_pred t) ⟨pk_in t 120 ht, pk_in t 120 ht, nm_r (e' := upd x_operatorLeft t (nI lf)) (by rw [bs_clk (by omega), eL, nI_pred]) ⟨pk_in t 120 ht, ?_⟩⟩)
  rw [bs_clk (n := t) (by omega), eK]
  refine br_f (by decide) ⟨pk_in t 120 ht, br_t rfl (nm_r (nI_pred vc) (nm_r (nI_pred t) hp))⟩
theorem mx_tk_more {post : SX → Prop} {d t fo : Nat} (hd : d < 8) (ht : t < 120) (hfo : fo ≤ t) (eO : x_frameOperators d = nI fo) {q lf : Nat} (hq : q ≤ 12) (h9 : q ≠ 9) (h10 : q ≠ 10) (hlf : 0 < lf) (hlf2 : lf < 1000) (eK : x_operatorKind t = nI q) (eL : x_operatorLeft t = nI (lf + 1)) (hp : post (x_classCount, x_superCount, x_objectCount, x_draftSpecialCount, -2, x_stepCount, x_latestValue, x_enterGeneric, x_enterPlace, nI (d + 1), nI (t + 1), x_valueCount, x_lineClass, x_lineLength, x_isSealed, x_classHasSlot, x_classSlot, x_superDraft, x_objectClass, x_objectHasSlot, x_objectSlot, x_parameterCount, x_methodGeneric, x_specialiser, x_tokenKind, x_tokenValue, x_tokenCount, x_argument, x_rank, x_orderPlace, x_frameMethod, x_framePlace, x_frameToken, x_frameOperators, x_frameArgument, x_operatorKind, x_operatorValue, upd x_operatorLeft t (nI lf), x_workedOut)) : wpX_takeValue post (x_classCount, x_superCount, x_objectCount, x_draftSpecialCount, x_state, x_stepCount, x_latestValue, x_enterGeneric, x_enterPlace, nI (d + 1), nI (t + 1), x_valueCount, x_lineClass, x_lineLength, x_isSealed, x_classHasSlot, x_classSlot, x_superDraft, x_objectClass, x_objectHasSlot, x_objectSlot, x_parameterCount, x_methodGeneric, x_specialiser, x_tokenKind, x_tokenValue, x_tokenCount, x_argument, x_rank, x_orderPlace, x_frameMethod, x_framePlace, x_frameToken, x_frameOperators, x_frameArgument, x_operatorKind, x_operatorValue, x_operatorLeft, x_workedOut) := by
  unfold wpX_takeValue
  refine nm_r (nI_pred d) ⟨pk_in d 8 hd, ?_⟩
  rw [bs_clk (n := d) (by omega), eO]
  refine pk_eq (t + 1) fo (fun e => by omega) (fun _ => nm_r (nI_pred t) ⟨pk_in t 120 ht, pk_in t 120 ht, nm_r (e' := upd x_operatorLeft t (nI lf)) (by rw [bs_clk (by omega), eL, nI_pred]) ⟨pk_in t 120 ht, ?_⟩⟩)
  rw [bs_clk (n := t) (by omega), eK]
  refine pk_eq q 9 (fun e => absurd e h9) (fun _ => ⟨pk_in t 120 ht, pk_eq q 10 (fun e => absurd e h10) (fun _ => ⟨pk_in t 120 ht, ?_⟩)⟩)
  rw [pk_us]
  exact br_f (nI_nle hlf (by omega)) hp
theorem mx_tk_app {post : SX → Prop} {d t fo : Nat} (hd : d < 8) (ht : t < 120) (hfo : fo ≤ t) (eO : x_frameOperators d = nI fo) {q : Nat} {w : Int32} (hq : q ≤ 12) (h9 : q ≠ 9) (h10 : q ≠ 10) (eK : x_operatorKind t = nI q) (eL : x_operatorLeft t = nI 1) (eV : x_operatorValue t = w) (hp : wpX_apply post (x_classCount, x_superCount, x_objectCount, x_draftSpecialCount, x_state, x_stepCount, x_latestValue, x_enterGeneric, x_enterPlace, nI (d + 1), nI t, x_valueCount, x_lineClass, x_lineLength, x_isSealed, x_classHasSlot, x_classSlot, x_superDraft, x_objectClass, x_objectHasSlot, x_objectSlot, x_parameterCount, x_methodGeneric, x_specialiser, x_tokenKind, x_tokenValue, x_tokenCount, x_argument, x_rank, x_orderPlace, x_frameMethod, x_framePlace, x_frameToken, x_frameOperators, x_frameArgument, x_operatorKind, x_operatorValue, upd x_operatorLeft t (nI 0), x_workedOut) (nI q) w) : wpX_takeValue post (x_classCount, x_superCount, x_objectCount, x_draftSpecialCount, x_state, x_stepCount, x_latestValue, x_enterGeneric, x_enterPlace, nI (d + 1), nI (t + 1), x_valueCount, x_lineClass, x_lineLength, x_isSealed, x_classHasSlot, x_classSlot, x_superDraft, x_objectClass, x_objectHasSlot, x_objectSlot, x_parameterCount, x_methodGeneric, x_specialiser, x_tokenKind, x_tokenValue, x_tokenCount, x_argument, x_rank, x_orderPlace, x_frameMethod, x_framePlace, x_frameToken, x_frameOperators, x_frameArgument, x_operatorKind, x_operatorValue, x_operatorLeft, x_workedOut) := by
  have lf : Nat := 0
  unfold wpX_takeValue
  refine nm_r (nI_pred d) ⟨pk_in d 8 hd, ?_⟩
  rw [bs_clk (n := d) (by omega), eO]
  refine pk_eq (t + 1) fo (fun e => by omega) (fun _ => nm_r (nI_pred t) ⟨pk_in t 120 ht, pk_in t 120 ht, nm_r (e' := upd x_operatorLeft t (nI 0)) (by rw [bs_clk (by omega), eL, nI_pred]) ⟨pk_in t 120 ht, ?_⟩⟩)
  rw [bs_clk (n := t) (by omega), eK]
  refine pk_eq q 9 (fun e => absurd e h9) (fun _ => ⟨pk_in t 120 ht, pk_eq q 10 (fun e => absurd e h10) (fun _ => ⟨pk_in t 120 ht, ?_⟩)⟩)
  rw [pk_us, eV]
  exact br_t (by decide) (nm_r (nI_pred t) ⟨pk_in t 120 ht, pk_in t 120 ht, hp⟩)
theorem mx_tk_if2 {post : SX → Prop} {d t fo : Nat} (hd : d < 8) (ht : t < 120) (hfo : fo ≤ t) (eO : x_frameOperators d = nI fo) {nc m n pc s : Nat} (hm : m < 24) (hpar : rl_par x_parameterCount) (hn : n ≤ 16) (en : x_tokenCount m = nI n) (hk : ∀ i, i < n → rl_tk nc (x_tokenKind (16 * m + i)) (x_tokenValue (16 * m + i))) (eM : x_frameMethod d = nI m) (eT : x_frameToken d = nI pc) (hs : pc + s ≤ n) (h : rl_pn (rl_am x_parameterCount x_tokenKind x_tokenValue m) s pc 1) (eK : x_operatorKind t = nI 9) (eL : x_operatorLeft t = nI 2) (hp : post (x_classCount, x_superCount, x_objectCount, x_draftSpecialCount, x_state, x_stepCount, x_latestValue, x_enterGeneric, x_enterPlace, nI (d + 1), nI t, x_valueCount, x_lineClass, x_lineLength, x_isSealed, x_classHasSlot, x_classSlot, x_superDraft, x_objectClass, x_objectHasSlot, x_objectSlot, x_parameterCount, x_methodGeneric, x_specialiser, x_tokenKind, x_tokenValue, x_tokenCount, x_argument, x_rank, x_orderPlace, x_frameMethod, x_framePlace, upd x_frameToken d (nI (pc + s)), x_frameOperators, x_frameArgument, x_operatorKind, x_operatorValue, upd x_operatorLeft t (nI 1), x_workedOut)) : wpX_takeValue post (x_classCount, x_superCount, x_objectCount, x_draftSpecialCount, x_state, x_stepCount, x_latestValue, x_enterGeneric, x_enterPlace, nI (d + 1), nI (t + 1), x_valueCount, x_lineClass, x_lineLength, x_isSealed, x_classHasSlot, x_classSlot, x_superDraft, x_objectClass, x_objectHasSlot, x_objectSlot, x_parameterCount, x_methodGeneric, x_specialiser, x_tokenKind, x_tokenValue, x_tokenCount, x_argument, x_rank, x_orderPlace, x_frameMethod, x_framePlace, x_frameToken, x_frameOperators, x_frameArgument, x_operatorKind, x_operatorValue, x_operatorLeft, x_workedOut) := by
  unfold wpX_takeValue
  refine nm_r (nI_pred d) ⟨pk_in d 8 hd, ?_⟩
  rw [bs_clk (n := d) (by omega), eO]
  refine pk_eq (t + 1) fo (fun e => by omega) (fun _ => nm_r (nI_pred t) ⟨pk_in t 120 ht, pk_in t 120 ht, nm_r (e' := upd x_operatorLeft t (nI 1)) (by rw [bs_clk (by omega), eL, nI_pred]) ⟨pk_in t 120 ht, ?_⟩⟩)
  rw [bs_clk (n := t) (by omega), eK]
  refine br_t rfl ?_
  unfold wpX_goOnWithIf
  refine ⟨pk_in t 120 ht, ?_⟩
  rw [bs_clk (n := t) (by omega), pk_us]
  refine br_t rfl (br_f (by decide) (br_t rfl ⟨pk_in d 8 hd, pk_in d 8 hd, ?_⟩))
  rw [bs_clk (n := d) (by omega), eM, eT]
  exact mx_endOf (by omega) hpar hn en hk hs h ⟨pk_in d 8 hd, nm_e (nm_r (nI_pred t) hp)⟩
theorem mx_tk_if1 {post : SX → Prop} {d t fo : Nat} (hd : d < 8) (ht : t < 120) (hfo : fo ≤ t) (eO : x_frameOperators d = nI fo) {vc : Nat} {nc m n pc s : Nat} (hvc : vc < 120) (hm : m < 24) (hpar : rl_par x_parameterCount) (hn : n ≤ 16) (en : x_tokenCount m = nI n) (hk : ∀ i, i < n → rl_tk nc (x_tokenKind (16 * m + i)) (x_tokenValue (16 * m + i))) (eM : x_frameMethod d = nI m) (eT : x_frameToken d = nI pc) (hs : pc + s ≤ n) (h : rl_pn (rl_am x_parameterCount x_tokenKind x_tokenValue m) s pc 1) (eK : x_operatorKind t = nI 9) (eL : x_operatorLeft t = nI 3)
    (h0 : x_workedOut vc = 0 → post (x_classCount, x_superCount, x_objectCount, x_draftSpecialCount, -2, x_stepCount, x_latestValue, x_enterGeneric, x_enterPlace, nI (d + 1), nI t, nI vc, x_lineClass, x_lineLength, x_isSealed, x_classHasSlot, x_classSlot, x_superDraft, x_objectClass, x_objectHasSlot, x_objectSlot, x_parameterCount, x_methodGeneric, x_specialiser, x_tokenKind, x_tokenValue, x_tokenCount, x_argument, x_rank, x_orderPlace, x_frameMethod, x_framePlace, upd x_frameToken d (nI (pc + s)), x_frameOperators, x_frameArgument, x_operatorKind, x_operatorValue, upd x_operatorLeft t (nI 2), x_workedOut))
    (h1 : ¬ x_workedOut vc = 0 → post (x_classCount, x_superCount, x_objectCount, x_draftSpecialCount, -2, x_stepCount, x_latestValue, x_enterGeneric, x_enterPlace, nI (d + 1), nI (t + 1), nI vc, x_lineClass, x_lineLength, x_isSealed, x_classHasSlot, x_classSlot, x_superDraft, x_objectClass, x_objectHasSlot, x_objectSlot, x_parameterCount, x_methodGeneric, x_specialiser, x_tokenKind, x_tokenValue, x_tokenCount, x_argument, x_rank, x_orderPlace, x_frameMethod, x_framePlace, x_frameToken, x_frameOperators, x_frameArgument, x_operatorKind, x_operatorValue, upd x_operatorLeft t (nI 2), x_workedOut)) : wpX_takeValue post (x_classCount, x_superCount, x_objectCount, x_draftSpecialCount, x_state, x_stepCount, x_latestValue, x_enterGeneric, x_enterPlace, nI (d + 1), nI (t + 1), nI (vc + 1), x_lineClass, x_lineLength, x_isSealed, x_classHasSlot, x_classSlot, x_superDraft, x_objectClass, x_objectHasSlot, x_objectSlot, x_parameterCount, x_methodGeneric, x_specialiser, x_tokenKind, x_tokenValue, x_tokenCount, x_argument, x_rank, x_orderPlace, x_frameMethod, x_framePlace, x_frameToken, x_frameOperators, x_frameArgument, x_operatorKind, x_operatorValue, x_operatorLeft, x_workedOut) := by
  unfold wpX_takeValue
  refine nm_r (nI_pred d) ⟨pk_in d 8 hd, ?_⟩
  rw [bs_clk (n := d) (by omega), eO]
  refine pk_eq (t + 1) fo (fun e => by omega) (fun _ => nm_r (nI_pred t) ⟨pk_in t 120 ht, pk_in t 120 ht, nm_r (e' := upd x_operatorLeft t (nI 2)) (by rw [bs_clk (by omega), eL, nI_pred]) ⟨pk_in t 120 ht, ?_⟩⟩)
  rw [bs_clk (n := t) (by omega), eK]
  refine br_t rfl ?_
  unfold wpX_goOnWithIf
  refine ⟨pk_in t 120 ht, ?_⟩
  rw [bs_clk (n := t) (by omega), pk_us]
  refine br_f (by decide) (br_t rfl (nm_r (nI_pred vc) ⟨pk_in vc 120 hvc, ?_⟩))
  rw [bs_clk (n := vc) (by omega)]
  refine br_c (fun e => br_t rfl ⟨pk_in d 8 hd, pk_in d 8 hd, ?_⟩) (fun e => br_f (by decide) (h1 e))
  rw [bs_clk (n := d) (by omega), eM, eT]
  exact mx_endOf (by omega) hpar hn en hk hs h ⟨pk_in d 8 hd, nm_e (nm_r (nI_pred t) (h0 e))⟩
theorem mx_ap_call {post : SX → Prop} {g p b : Nat} (hg : g < 5) (hp3 : p ≤ 3) (hb : b + p ≤ 120) (ep : x_parameterCount g = nI p) (hp : ∀ ag : Nat → Int64, (∀ q, q < p → ag q = x_workedOut (b + q)) → post (x_classCount, x_superCount, x_objectCount, x_draftSpecialCount, -1, x_stepCount, x_latestValue, nI g, 0, x_frameCount, x_operatorCount, nI b, x_lineClass, x_lineLength, x_isSealed, x_classHasSlot, x_classSlot, x_superDraft, x_objectClass, x_objectHasSlot, x_objectSlot, x_parameterCount, x_methodGeneric, x_specialiser, x_tokenKind, x_tokenValue, x_tokenCount, ag, x_rank, x_orderPlace, x_frameMethod, x_framePlace, x_frameToken, x_frameOperators, x_frameArgument, x_operatorKind, x_operatorValue, x_operatorLeft, x_workedOut)) : wpX_apply post (x_classCount, x_superCount, x_objectCount, x_draftSpecialCount, x_state, x_stepCount, x_latestValue, x_enterGeneric, x_enterPlace, x_frameCount, x_operatorCount, nI (b + p), x_lineClass, x_lineLength, x_isSealed, x_classHasSlot, x_classSlot, x_superDraft, x_objectClass, x_objectHasSlot, x_objectSlot, x_parameterCount, x_methodGeneric, x_specialiser, x_tokenKind, x_tokenValue, x_tokenCount, x_argument, x_rank, x_orderPlace, x_frameMethod, x_framePlace, x_frameToken, x_frameOperators, x_frameArgument, x_operatorKind, x_operatorValue, x_operatorLeft, x_workedOut) (nI 3) (nI g) := by
  unfold wpX_apply
  refine br_f (by decide) (br_f (by decide) (br_t rfl ?_))
  unfold wpX_applyCall
  refine ⟨pk_in g 5 hg, nm_r (e' := nI b) (by rw [bs_clk (by omega), ep, pk_sub (by omega), Nat.add_sub_cancel]) ?_⟩
  refine loop_0 (σ := Nat → Int64) (fun n i s => wX_applyCall_17 _ (nI g) x_classCount x_superCount x_objectCount x_draftSpecialCount x_state x_stepCount x_latestValue x_enterGeneric x_enterPlace x_frameCount x_operatorCount (nI b) n (nI i) x_lineClass x_lineLength x_isSealed x_classHasSlot x_classSlot x_superDraft x_objectClass x_objectHasSlot x_objectSlot x_parameterCount x_methodGeneric x_specialiser x_tokenKind x_tokenValue x_tokenCount s x_rank x_orderPlace x_frameMethod x_framePlace x_frameToken x_frameOperators x_frameArgument x_operatorKind x_operatorValue x_operatorLeft x_workedOut) (fun i s => ∀ q, q < i → s q = x_workedOut (b + q)) p x_argument lt_0 ?_ ?_
  · intro n s hI
    refine ⟨pk_in g 5 hg, ?_⟩
    rw [bs_clk (n := g) (by omega), ep]
    exact br_t (nI_le (Nat.le_refl _) (by omega)) (hp s hI)
  · intro n i s hi hI k
    refine ⟨pk_in g 5 hg, ?_⟩
    rw [bs_clk (n := g) (by omega), ep]
    refine br_f (nI_ge hi (by omega)) ⟨pk_in (b + i) 120 (by omega) (nI_add b i), pk_in i 3 (by omega), nm_r (e' := vp_updL s i (x_workedOut (b + i))) (by rw [nI_add, bs_clk (by omega), bs_clk (by omega)]) (nm_r (nI_1 i) (k _ (fun q hq => ?_)))⟩
    by_cases e : q = i
    · rw [e, pk_uLs]
    · rw [pk_uLn e]; exact hI q (by omega)
theorem mx_slotCell {post : Int32 → Prop} {no n : Nat} {v : Int64} (hno : no ≤ 20) (hn : n < 4) (h0 : (¬ ∃ k, k < no ∧ v = lN (4294967296 + k) ∧ ¬ x_objectHasSlot (4 * k + n) = 0) → post (-1)) (h1 : ∀ k, k < no → v = lN (4294967296 + k) → ¬ x_objectHasSlot (4 * k + n) = 0 → post (nI (4 * k + n))) : wpX_slotCell post (x_classCount, x_superCount, nI no, x_draftSpecialCount, x_state, x_stepCount, x_latestValue, x_enterGeneric, x_enterPlace, x_frameCount, x_operatorCount, x_valueCount, x_lineClass, x_lineLength, x_isSealed, x_classHasSlot, x_classSlot, x_superDraft, x_objectClass, x_objectHasSlot, x_objectSlot, x_parameterCount, x_methodGeneric, x_specialiser, x_tokenKind, x_tokenValue, x_tokenCount, x_argument, x_rank, x_orderPlace, x_frameMethod, x_framePlace, x_frameToken, x_frameOperators, x_frameArgument, x_operatorKind, x_operatorValue, x_operatorLeft, x_workedOut) v (nI n) := by
  unfold wpX_slotCell
  by_cases ho : ∃ k, k < no ∧ v = lN (4294967296 + k)
  · obtain ⟨k, hk, rfl⟩ := ho
    refine mx_isObject_t hno hk (br_f (by decide) (nm_r (e' := nI (4 * k + n)) (by rw [ob_ix (by omega), bs_xi 4 k n]) ⟨pk_in (4 * k + n) 80 (by omega), ?_⟩))
    rw [bs_clk (n := 4 * k + n) (by omega)]
    refine br_c (fun e => h0 ?_) (fun e => h1 k hk rfl e)
    rintro ⟨q, hq, e2, e3⟩
    have := ob_inj (by omega) (by omega) e2
    subst this
    exact e3 e
  · exact mx_isObject_f hno ho (br_t rfl (h0 (fun ⟨k, hk, e, _⟩ => ho ⟨k, hk, e⟩)))
theorem mx_ap_get {post : SX → Prop} {no n vc : Nat} (hno : no ≤ 20) (hn : n < 4) (hvc : vc < 120) (h0 : (¬ ∃ k, k < no ∧ x_workedOut vc = lN (4294967296 + k) ∧ ¬ x_objectHasSlot (4 * k + n) = 0) → post (x_classCount, x_superCount, nI no, x_draftSpecialCount, 4, x_stepCount, x_latestValue, x_enterGeneric, x_enterPlace, x_frameCount, x_operatorCount, nI vc, x_lineClass, x_lineLength, x_isSealed, x_classHasSlot, x_classSlot, x_superDraft, x_objectClass, x_objectHasSlot, x_objectSlot, x_parameterCount, x_methodGeneric, x_specialiser, x_tokenKind, x_tokenValue, x_tokenCount, x_argument, x_rank, x_orderPlace, x_frameMethod, x_framePlace, x_frameToken, x_frameOperators, x_frameArgument, x_operatorKind, x_operatorValue, x_operatorLeft, x_workedOut)) (h1 : ∀ k, k < no → x_workedOut vc = lN (4294967296 + k) → ¬ x_objectHasSlot (4 * k + n) = 0 → post (x_classCount, x_superCount, nI no, x_draftSpecialCount, -3, x_stepCount, x_latestValue, x_enterGeneric, x_enterPlace, x_frameCount, x_operatorCount, nI (vc + 1), x_lineClass, x_lineLength, x_isSealed, x_classHasSlot, x_classSlot, x_superDraft, x_objectClass, x_objectHasSlot, x_objectSlot, x_parameterCount, x_methodGeneric, x_specialiser, x_tokenKind, x_tokenValue, x_tokenCount, x_argument, x_rank, x_orderPlace, x_frameMethod, x_framePlace, x_frameToken, x_frameOperators, x_frameArgument, x_operatorKind, x_operatorValue, x_operatorLeft, vp_updL x_workedOut vc (x_objectSlot (4 * k + n)))) : wpX_apply post (x_classCount, x_superCount, nI no, x_draftSpecialCount, x_state, x_stepCount, x_latestValue, x_enterGeneric, x_enterPlace, x_frameCount, x_operatorCount, nI (vc + 1), x_lineClass, x_lineLength, x_isSealed, x_classHasSlot, x_classSlot, x_superDraft, x_objectClass, x_objectHasSlot, x_objectSlot, x_parameterCount, x_methodGeneric, x_specialiser, x_tokenKind, x_tokenValue, x_tokenCount, x_argument, x_rank, x_orderPlace, x_frameMethod, x_framePlace, x_frameToken, x_frameOperators, x_frameArgument, x_operatorKind, x_operatorValue, x_operatorLeft, x_workedOut) (nI 4) (nI n) := by
  unfold wpX_apply
  refine br_f (by decide) (br_f (by decide) (br_f (by decide) (br_t rfl ?_)))
  unfold wpX_applyGet
  refine nm_r (nI_pred vc) ⟨pk_in vc 120 hvc, ?_⟩
  rw [bs_clk (n := vc) (by omega)]
  refine mx_slotCell hno hn (fun h => br_t rfl (h0 h)) (fun k hk e e2 => br_f (bs_n1 (by omega)) ⟨pk_in (4 * k + n) 80 (by omega), ?_⟩)
  rw [bs_clk (n := 4 * k + n) (by omega)]
  exact mx_pushValue hvc (h1 k hk e e2)
theorem bs_m2 (n : Nat) : nI (n + 2) - 2 = nI n := by
  rw [show (2 : Int32) = nI 2 from rfl, pk_sub (by omega), Nat.add_sub_cancel]
theorem mx_ap_set {post : SX → Prop} {no n b : Nat} (hno : no ≤ 20) (hn : n < 4) (hb : b + 1 < 120) (h0 : (¬ ∃ k, k < no ∧ x_workedOut b = lN (4294967296 + k) ∧ ¬ x_objectHasSlot (4 * k + n) = 0) → post (x_classCount, x_superCount, nI no, x_draftSpecialCount, 4, x_stepCount, x_latestValue, x_enterGeneric, x_enterPlace, x_frameCount, x_operatorCount, nI b, x_lineClass, x_lineLength, x_isSealed, x_classHasSlot, x_classSlot, x_superDraft, x_objectClass, x_objectHasSlot, x_objectSlot, x_parameterCount, x_methodGeneric, x_specialiser, x_tokenKind, x_tokenValue, x_tokenCount, x_argument, x_rank, x_orderPlace, x_frameMethod, x_framePlace, x_frameToken, x_frameOperators, x_frameArgument, x_operatorKind, x_operatorValue, x_operatorLeft, x_workedOut)) (h1 : ∀ k, k < no → x_workedOut b = lN (4294967296 + k) → ¬ x_objectHasSlot (4 * k + n) = 0 → post (x_classCount, x_superCount, nI no, x_draftSpecialCount, -3, x_stepCount, x_latestValue, x_enterGeneric, x_enterPlace, x_frameCount, x_operatorCount, nI (b + 1), x_lineClass, x_lineLength, x_isSealed, x_classHasSlot, x_classSlot, x_superDraft, x_objectClass, x_objectHasSlot, vp_updL x_objectSlot (4 * k + n) (x_workedOut (b + 1)), x_parameterCount, x_methodGeneric, x_specialiser, x_tokenKind, x_tokenValue, x_tokenCount, x_argument, x_rank, x_orderPlace, x_frameMethod, x_framePlace, x_frameToken, x_frameOperators, x_frameArgument, x_operatorKind, x_operatorValue, x_operatorLeft, vp_updL x_workedOut b (x_workedOut (b + 1)))) : wpX_apply post (x_classCount, x_superCount, nI no, x_draftSpecialCount, x_state, x_stepCount, x_latestValue, x_enterGeneric, x_enterPlace, x_frameCount, x_operatorCount, nI (b + 2), x_lineClass, x_lineLength, x_isSealed, x_classHasSlot, x_classSlot, x_superDraft, x_objectClass, x_objectHasSlot, x_objectSlot, x_parameterCount, x_methodGeneric, x_specialiser, x_tokenKind, x_tokenValue, x_tokenCount, x_argument, x_rank, x_orderPlace, x_frameMethod, x_framePlace, x_frameToken, x_frameOperators, x_frameArgument, x_operatorKind, x_operatorValue, x_operatorLeft, x_workedOut) (nI 5) (nI n) := by
  unfold wpX_apply
  refine br_f (by decide) (br_f (by decide) (br_f (by decide) (br_f (by decide) (br_t rfl ?_))))
  unfold wpX_applySet
  refine nm_r (bs_m2 b) ⟨pk_in b 120 (by omega), ?_⟩
  rw [bs_clk (n := b) (by omega)]
  refine mx_slotCell hno hn (fun h => br_t rfl (h0 h)) (fun k hk e e2 => br_f (bs_n1 (by omega)) ⟨pk_in (b + 1) 120 (by omega) (nI_1 b), pk_in (4 * k + n) 80 (by omega), nm_r (e' := vp_updL x_objectSlot (4 * k + n) (x_workedOut (b + 1))) (by rw [nI_1, bs_clk (n := 4 * k + n) (by omega), bs_clk (n := b + 1) (by omega)]) ⟨pk_in (4 * k + n) 80 (by omega), ?_⟩⟩)
  rw [bs_clk (n := 4 * k + n) (by omega), pk_uLs]
  exact mx_pushValue (by omega) (h1 k hk e e2)
theorem mx_ap_is {post : SX → Prop} {nc no vc : Nat} {s : Int32} (hcls : rl_cls nc x_lineClass x_lineLength) (hno : no ≤ 20) (hoc : ∀ k, k < no → ∃ c, c < nc ∧ x_objectClass k = nI c) (hv : rl_val no (x_workedOut vc)) (hvc : vc < 120) (hp : post (x_classCount, x_superCount, nI no, x_draftSpecialCount, -3, x_stepCount, x_latestValue, x_enterGeneric, x_enterPlace, x_frameCount, x_operatorCount, nI (vc + 1), x_lineClass, x_lineLength, x_isSealed, x_classHasSlot, x_classSlot, x_superDraft, x_objectClass, x_objectHasSlot, x_objectSlot, x_parameterCount, x_methodGeneric, x_specialiser, x_tokenKind, x_tokenValue, x_tokenCount, x_argument, x_rank, x_orderPlace, x_frameMethod, x_framePlace, x_frameToken, x_frameOperators, x_frameArgument, x_operatorKind, x_operatorValue, x_operatorLeft, vp_updL x_workedOut vc (bs_ci (or_pl x_lineClass x_lineLength (ob_kc x_objectClass no (x_workedOut vc)).toNatClampNeg s = -1) 0 1))) : wpX_apply post (x_classCount, x_superCount, nI no, x_draftSpecialCount, x_state, x_stepCount, x_latestValue, x_enterGeneric, x_enterPlace, x_frameCount, x_operatorCount, nI (vc + 1), x_lineClass, x_lineLength, x_isSealed, x_classHasSlot, x_classSlot, x_superDraft, x_objectClass, x_objectHasSlot, x_objectSlot, x_parameterCount, x_methodGeneric, x_specialiser, x_tokenKind, x_tokenValue, x_tokenCount, x_argument, x_rank, x_orderPlace, x_frameMethod, x_framePlace, x_frameToken, x_frameOperators, x_frameArgument, x_operatorKind, x_operatorValue, x_operatorLeft, x_workedOut) (nI 11) s := by
  have h16 := hcls.2.1
  unfold wpX_apply
  refine br_f (by decide) (br_f (by decide) (br_f (by decide) (br_f (by decide) (br_f (by decide) (br_f (by decide) (br_f (by decide) (br_f (by decide) (br_f (by decide) (br_f (by decide) (br_t rfl ?_))))))))))
  unfold wpX_applyIs
  refine nm_r (nI_pred vc) ⟨pk_in vc 120 hvc, ?_⟩
  rw [bs_clk (n := vc) (by omega)]
  refine mx_classOf hno ?_
  obtain ⟨c, hc, _, ek⟩ := or_cv_v hcls.1 hno hoc hv
  obtain ⟨l, hl, el, _⟩ := hcls.2.2 c hc
  rw [ek, bs_clk (by omega)] at hp
  rw [ek]
  refine mx_placeInLine (by omega) hl el (br_c (fun e => ?_) (fun e => ?_))
  · rw [bs_ct e] at hp
    exact mx_pushValue hvc hp
  · rw [bs_cf e] at hp
    exact mx_pushValue hvc hp
/-- what ADD, SUB, LESS give -/
noncomputable def cm_int (q : Nat) (a b : Int32) : Int64 := bs_ci (q = 6) (a + b).toInt64 (bs_ci (q = 7) (a - b).toInt64 (bs_ci (b ≤ a) 0 1))
theorem mx_ap_int {post : SX → Prop} {q b : Nat} {w : Int32} (hq6 : 6 ≤ q) (hq8 : q ≤ 8) (hb : b + 1 < 120) (h0 : ¬ (rl_int (x_workedOut b) ∧ rl_int (x_workedOut (b + 1))) → post (x_classCount, x_superCount, x_objectCount, x_draftSpecialCount, 5, x_stepCount, x_latestValue, x_enterGeneric, x_enterPlace, x_frameCount, x_operatorCount, nI b, x_lineClass, x_lineLength, x_isSealed, x_classHasSlot, x_classSlot, x_superDraft, x_objectClass, x_objectHasSlot, x_objectSlot, x_parameterCount, x_methodGeneric, x_specialiser, x_tokenKind, x_tokenValue, x_tokenCount, x_argument, x_rank, x_orderPlace, x_frameMethod, x_framePlace, x_frameToken, x_frameOperators, x_frameArgument, x_operatorKind, x_operatorValue, x_operatorLeft, x_workedOut)) (h1 : rl_int (x_workedOut b) → rl_int (x_workedOut (b + 1)) → post (x_classCount, x_superCount, x_objectCount, x_draftSpecialCount, -3, x_stepCount, x_latestValue, x_enterGeneric, x_enterPlace, x_frameCount, x_operatorCount, nI (b + 1), x_lineClass, x_lineLength, x_isSealed, x_classHasSlot, x_classSlot, x_superDraft, x_objectClass, x_objectHasSlot, x_objectSlot, x_parameterCount, x_methodGeneric, x_specialiser, x_tokenKind, x_tokenValue, x_tokenCount, x_argument, x_rank, x_orderPlace, x_frameMethod, x_framePlace, x_frameToken, x_frameOperators, x_frameArgument, x_operatorKind, x_operatorValue, x_operatorLeft, vp_updL x_workedOut b (cm_int q (x_workedOut b).toInt32 (x_workedOut (b + 1)).toInt32))) : wpX_apply post (x_classCount, x_superCount, x_objectCount, x_draftSpecialCount, x_state, x_stepCount, x_latestValue, x_enterGeneric, x_enterPlace, x_frameCount, x_operatorCount, nI (b + 2), x_lineClass, x_lineLength, x_isSealed, x_classHasSlot, x_classSlot, x_superDraft, x_objectClass, x_objectHasSlot, x_objectSlot, x_parameterCount, x_methodGeneric, x_specialiser, x_tokenKind, x_tokenValue, x_tokenCount, x_argument, x_rank, x_orderPlace, x_frameMethod, x_framePlace, x_frameToken, x_frameOperators, x_frameArgument, x_operatorKind, x_operatorValue, x_operatorLeft, x_workedOut) (nI q) w := by
  have key : wpX_applyToInts post (x_classCount, x_superCount, x_objectCount, x_draftSpecialCount, x_state, x_stepCount, x_latestValue, x_enterGeneric, x_enterPlace, x_frameCount, x_operatorCount, nI (b + 2), x_lineClass, x_lineLength, x_isSealed, x_classHasSlot, x_classSlot, x_superDraft, x_objectClass, x_objectHasSlot, x_objectSlot, x_parameterCount, x_methodGeneric, x_specialiser, x_tokenKind, x_tokenValue, x_tokenCount, x_argument, x_rank, x_orderPlace, x_frameMethod, x_framePlace, x_frameToken, x_frameOperators, x_frameArgument, x_operatorKind, x_operatorValue, x_operatorLeft, x_workedOut) (nI q) := by
    unfold wpX_applyToInts
    refine nm_r (bs_m2 b) ⟨pk_in b 120 (by omega), ?_⟩
    rw [bs_clk (n := b) (by omega), nI_1 b, bs_clk (n := b + 1) (by omega)]
    by_cases i1 : rl_int (x_workedOut b)
    · refine mx_isInt_t i1 (br_f (by decide) ⟨pk_in (b + 1) 120 (by omega), ?_⟩)
      by_cases i2 : rl_int (x_workedOut (b + 1))
      · have h1' := h1 i1 i2
        unfold cm_int at h1'
        refine mx_isInt_t i2 (br_f (by decide) ⟨pk_in b 120 (by omega), nm_e ⟨pk_in (b + 1) 120 (by omega), nm_e (pk_eq q 6 (fun e => ?_) (fun e => pk_eq q 7 (fun e2 => ?_) (fun e2 => br_c (fun e3 => ?_) (fun e3 => ?_))))⟩⟩)
        · rw [bs_ct e] at h1'
          exact mx_pushValue (by omega) h1'
        · rw [bs_cf e, bs_ct e2] at h1'
          exact mx_pushValue (by omega) h1'
        · rw [bs_cf e, bs_cf e2, bs_ct e3] at h1'
          exact mx_pushValue (by omega) h1'
        · rw [bs_cf e, bs_cf e2, bs_cf e3] at h1'
          exact mx_pushValue (by omega) h1'
      · exact mx_isInt_f i2 (br_t rfl (h0 (fun z => i2 z.2)))
    · exact mx_isInt_f i1 (br_t rfl (h0 (fun z => i1 z.1)))
  unfold wpX_apply
  exact pk_lt q 3 (fun e => by omega) (fun _ => pk_lt 11 q (fun e => by omega) (fun _ => pk_eq q 3 (fun e => by omega) (fun _ => pk_eq q 4 (fun e => by omega) (fun _ => pk_eq q 5 (fun e => by omega) (fun _ => pk_eq q 6 (fun e => key) (fun _ => pk_eq q 7 (fun e => key) (fun _ => pk_eq q 8 (fun e => key) (fun e => by omega))))))))
end
