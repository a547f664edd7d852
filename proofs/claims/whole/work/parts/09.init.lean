/-! the constructors; clear -/
def in_f (x : Int32) (i : Nat) : Nat → Int32 := fun j => if j < i then x else 0
theorem in_0 (x : Int32) : (fun _ => 0 : Nat → Int32) = in_f x 0 := by
  funext j
  exact (if_neg (Nat.not_lt_zero j)).symm
theorem in_s (x : Int32) (i : Nat) : upd (in_f x i) i x = in_f x (i + 1) := by
  funext j
  unfold in_f
  by_cases e : j = i
  · rw [e, pk_us, if_pos (by omega)]
  · rw [pk_un e]
    by_cases h : j < i
    · rw [if_pos h, if_pos (by omega)]
    · rw [if_neg h, if_neg (by omega)]
theorem in_at {x : Int32} {i j : Nat} (h : j < i) : in_f x i j = x := if_pos h
def in_LC : Nat → Int32 := upd (upd (upd (fun _ => 0) 0 0) 16 1) 17 0
def in_LL : Nat → Int32 := upd (upd (fun _ => 0) 0 1) 1 2
theorem in_lc : upd (fun _ => 0) 16 1 = in_LC := by
  funext j
  unfold in_LC
  by_cases e1 : j = 17
  · rw [e1, pk_us]; rfl
  · rw [pk_un e1]
    by_cases e2 : j = 16
    · rw [e2, pk_us, pk_us]
    · rw [pk_un e2, pk_un e2]
      by_cases e3 : j = 0
      · rw [e3, pk_us]
      · rw [pk_un e3]
theorem mx_init {post : SX → Prop} (hp : post (2, 0, 0, 0, 0, 0, -9223372036854775808, 0, 0, 0, 0, 0, in_LC, in_LL, fun _ => 0, fun _ => 0, fun _ => 0, fun _ => 0, fun _ => 0, fun _ => 0, fun _ => 0, in_f 1 5, in_f (-1) 24, fun _ => 0, fun _ => 0, fun _ => 0, fun _ => 0, fun _ => 0, fun _ => 0, fun _ => 0, fun _ => 0, fun _ => 0, fun _ => 0, fun _ => 0, fun _ => 0, fun _ => 0, fun _ => 0, fun _ => 0, fun _ => 0)) : wpX_init post := by
  unfold wpX_init
  refine nm_e (nm_e (nm_e (nm_e (nm_e ?_))))
  refine loop_0 (σ := Nat → Int32) (fun n i s => wX_init_321 post 2 0 0 0 0 0 (-9223372036854775808) 0 0 0 0 0 n (nI i) in_LC in_LL (fun _ => 0) (fun _ => 0) (fun _ => 0) (fun _ => 0) (fun _ => 0) (fun _ => 0) (fun _ => 0) s (fun _ => 0) (fun _ => 0) (fun _ => 0) (fun _ => 0) (fun _ => 0) (fun _ => 0) (fun _ => 0) (fun _ => 0) (fun _ => 0) (fun _ => 0) (fun _ => 0) (fun _ => 0) (fun _ => 0) (fun _ => 0) (fun _ => 0) (fun _ => 0) (fun _ => 0)) (fun i s => s = in_f 1 i) 5 (fun _ => 0) (in_0 1) ?_ ?_
  · rintro n s rfl
    refine br_t (nI_le (Nat.le_refl _) (by omega)) ?_
    refine loop_0 (σ := Nat → Int32) (fun n i s => wX_init_341 post 2 0 0 0 0 0 (-9223372036854775808) 0 0 0 0 0 n (nI i) in_LC in_LL (fun _ => 0) (fun _ => 0) (fun _ => 0) (fun _ => 0) (fun _ => 0) (fun _ => 0) (fun _ => 0) (in_f 1 5) s (fun _ => 0) (fun _ => 0) (fun _ => 0) (fun _ => 0) (fun _ => 0) (fun _ => 0) (fun _ => 0) (fun _ => 0) (fun _ => 0) (fun _ => 0) (fun _ => 0) (fun _ => 0) (fun _ => 0) (fun _ => 0) (fun _ => 0) (fun _ => 0)) (fun i s => s = in_f (-1) i) 24 (fun _ => 0) (in_0 (-1)) ?_ ?_
    · rintro n s rfl
      exact br_t (nI_le (Nat.le_refl _) (by omega)) hp
    · rintro n i s hi rfl k
      refine br_f (nI_ge (b := 24) hi (by omega)) ⟨pk_in i 24 hi, nm_r (e' := in_f (-1) (i + 1)) (by rw [bs_clk (by omega), in_s]) (nm_r (nI_1 i) (k _ rfl))⟩
  · rintro n i s hi rfl k
    refine br_f (nI_ge (b := 5) hi (by omega)) ⟨pk_in i 5 hi, nm_r (e' := in_f 1 (i + 1)) (by rw [bs_clk (by omega), in_s]) (nm_r (nI_1 i) (k _ rfl))⟩
theorem my_init {post : SY → Prop} (hp : post (2, 0, 0, 0, 0, 0, 0, 0, 0, 0, -9223372036854775808, in_LC, in_LL, fun _ => 0, fun _ => 0, fun _ => 0, fun _ => 0, fun _ => 0, fun _ => 0, fun _ => 0, fun _ => 0, fun _ => 0, fun _ => 0, fun _ => 0, in_f 1 5, in_f (-1) 24, fun _ => 0, fun _ => 0, fun _ => 0, fun _ => 0, fun _ => 0, fun _ => 0, fun _ => 0, fun _ => 0, fun _ => 0, fun _ => 0, fun _ => 0, fun _ => 0, fun _ => 0, fun _ => 0, fun _ => 0, fun _ => 0)) : wpY_init post := by
  unfold wpY_init
  refine nm_r (e' := in_LC) (by rw [bs_v1]; exact in_lc) (nm_e (nm_r (e' := in_LL) (by rw [bs_v1, bs_v2]; rfl) ?_))
  refine loop_0 (σ := Nat → Int32) (fun n i s => wY_init_289 post 2 0 0 0 0 0 0 0 0 0 (-9223372036854775808) n (nI i) in_LC in_LL (fun _ => 0) (fun _ => 0) (fun _ => 0) (fun _ => 0) (fun _ => 0) (fun _ => 0) (fun _ => 0) (fun _ => 0) (fun _ => 0) (fun _ => 0) (fun _ => 0) s (fun _ => 0) (fun _ => 0) (fun _ => 0) (fun _ => 0) (fun _ => 0) (fun _ => 0) (fun _ => 0) (fun _ => 0) (fun _ => 0) (fun _ => 0) (fun _ => 0) (fun _ => 0) (fun _ => 0) (fun _ => 0) (fun _ => 0) (fun _ => 0) (fun _ => 0)) (fun i s => s = in_f 1 i) 5 (fun _ => 0) (in_0 1) ?_ ?_
  · rintro n s rfl
    refine br_t (nI_le (Nat.le_refl _) (by omega)) ?_
    refine loop_0 (σ := Nat → Int32) (fun n i s => wY_init_309 post 2 0 0 0 0 0 0 0 0 0 (-9223372036854775808) n (nI i) in_LC in_LL (fun _ => 0) (fun _ => 0) (fun _ => 0) (fun _ => 0) (fun _ => 0) (fun _ => 0) (fun _ => 0) (fun _ => 0) (fun _ => 0) (fun _ => 0) (fun _ => 0) (in_f 1 5) s (fun _ => 0) (fun _ => 0) (fun _ => 0) (fun _ => 0) (fun _ => 0) (fun _ => 0) (fun _ => 0) (fun _ => 0) (fun _ => 0) (fun _ => 0) (fun _ => 0) (fun _ => 0) (fun _ => 0) (fun _ => 0) (fun _ => 0) (fun _ => 0)) (fun i s => s = in_f (-1) i) 24 (fun _ => 0) (in_0 (-1)) ?_ ?_
    · rintro n s rfl
      exact br_t (nI_le (Nat.le_refl _) (by omega)) hp
    · rintro n i s hi rfl k
      refine br_f (nI_ge (b := 24) hi (by omega)) ⟨pk_in i 24 hi, nm_r (e' := in_f (-1) (i + 1)) (by rw [bs_clk (by omega), bs_vm1, in_s]) (nm_r (nI_1 i) (k _ rfl))⟩
  · rintro n i s hi rfl k
    refine br_f (nI_ge (b := 5) hi (by omega)) ⟨pk_in i 5 hi, nm_r (e' := in_f 1 (i + 1)) (by rw [bs_clk (by omega), bs_v1, in_s]) (nm_r (nI_1 i) (k _ rfl))⟩
theorem i_vc0 : wpX_init (fun u => wpY_init (fun v => i_Rel 0 u v)) := by
  refine mx_init (my_init ?_)
  refine ⟨2, 0, 0, 0, rfl, rfl, rfl, rfl, rfl, rfl, rfl, rfl, rfl, rfl, rfl, rfl, rfl, rfl, rfl, rfl, rfl, rfl, rfl, rfl, ⟨by omega, by omega, fun c hc => ?_⟩, ⟨by omega, fun i hi => by omega⟩, ⟨fun j => Or.inl rfl, fun j _ => ⟨rfl, fun z => absurd z (show ¬ (0 : Int32) = 1 by decide)⟩, fun n _ => ⟨rfl, fun z => absurd z (show ¬ (0 : Int32) = 1 by decide)⟩, fun _ _ => rfl⟩, ⟨by omega, fun k hk => by omega, fun j hj => by omega⟩, fun g hg => ⟨1, by omega, by omega, in_at hg⟩, fun m hm => Or.inl (in_at hm), fun m hm => ⟨0, by omega, rfl, fun i hi => by omega⟩, fun m g p t hm hg hp ht h1 h2 h3 => ?_, ⟨by omega, fun k hk => by omega, fun m g p hm hg hp h1 h2 k hk => ?_⟩, fun m n g p hm hn hg hp h1 h2 h3 h4 => ?_⟩
  · have hc2 : c = 0 ∨ c = 1 := by omega
    rcases hc2 with rfl | rfl
    · refine ⟨1, by omega, rfl, fun k hk => ?_⟩
      have : k = 0 := by omega
      subst this
      exact ⟨0, by omega, rfl⟩
    · refine ⟨2, by omega, rfl, fun k hk => ?_⟩
      have : k = 0 ∨ k = 1 := by omega
      rcases this with rfl | rfl
      · exact ⟨1, by omega, rfl⟩
      · exact ⟨0, by omega, rfl⟩
  · rw [in_at hm] at h1
    exact absurd h1.symm (bs_n1 (by omega))
  · rw [in_at hm] at h1
    exact absurd h1.symm (bs_n1 (by omega))
  · rw [in_at hm] at h1
    exact absurd h1.symm (bs_n1 (by omega))
/-- the methods that a clear takes -/
def cl_b (PC MG : Nat → Int32) (SP : Nat → Int64) (no m : Nat) : Prop := ∃ g p i k, g < 5 ∧ MG m = nI g ∧ p ≤ 3 ∧ PC g = nI p ∧ i < p ∧ k < no ∧ SP (3 * m + i) = lN (4294967296 + k)
noncomputable def cl_f (MG : Nat → Int32) (b : Nat → Prop) (i : Nat) : Nat → Int32 := fun j => bs_ci (j < i ∧ b j) (-1) (MG j)
theorem cl_0 (MG : Nat → Int32) (b : Nat → Prop) : MG = cl_f MG b 0 := by
  funext j
  exact (bs_cf (fun z => absurd z.1 (Nat.not_lt_zero j))).symm
theorem cl_i (MG : Nat → Int32) (b : Nat → Prop) (i : Nat) : cl_f MG b i i = MG i := bs_cf (fun z => absurd z.1 (Nat.lt_irrefl i))
theorem cl_t {MG : Nat → Int32} {b : Nat → Prop} {i : Nat} (h : b i) : upd (cl_f MG b i) i (-1) = cl_f MG b (i + 1) := by
  funext j
  by_cases e : j = i
  · rw [e, pk_us]; exact (bs_ct ⟨by omega, h⟩).symm
  · rw [pk_un e]
    unfold cl_f
    by_cases h2 : j < i ∧ b j
    · rw [bs_ct h2, bs_ct ⟨by omega, h2.2⟩]
    · rw [bs_cf h2, bs_cf (fun z => h2 ⟨by omega, z.2⟩)]
theorem cl_n {MG : Nat → Int32} {b : Nat → Prop} {i : Nat} (h : ¬ b i) : cl_f MG b i = cl_f MG b (i + 1) := by
  funext j
  unfold cl_f
  by_cases h2 : j < i ∧ b j
  · rw [bs_ct h2, bs_ct ⟨by omega, h2.2⟩]
  · rw [bs_cf h2, bs_cf (fun z => ?_)]
    by_cases e : j = i
    · rw [e] at z; exact h z.2
    · exact h2 ⟨by omega, z.2⟩
theorem cl_or (x : Int32) : x ||| 0 = x := Int32.or_zero
section
variable {x_classCount : Int32} {x_superCount : Int32} {x_objectCount : Int32} {x_draftSpecialCount : Int32} {x_state : Int32} {x_stepCount : Int32} {x_latestValue : Int64} {x_enterGeneric : Int32} {x_enterPlace : Int32} {x_frameCount : Int32} {x_operatorCount : Int32} {x_valueCount : Int32} {x_lineClass : Nat → Int32} {x_lineLength : Nat → Int32} {x_isSealed : Nat → Int32} {x_classHasSlot : Nat → Int32} {x_classSlot : Nat → Int32} {x_superDraft : Nat → Int32} {x_objectClass : Nat → Int32} {x_objectHasSlot : Nat → Int32} {x_objectSlot : Nat → Int64} {x_parameterCount : Nat → Int32} {x_methodGeneric : Nat → Int32} {x_specialiser : Nat → Int64} {x_tokenKind : Nat → Int32} {x_tokenValue : Nat → Int32} {x_tokenCount : Nat → Int32} {x_argument : Nat → Int64} {x_rank : Nat → Int32} {x_orderPlace : Nat → Int32} {x_frameMethod : Nat → Int32} {x_framePlace : Nat → Int32} {x_frameToken : Nat → Int32} {x_frameOperators : Nat → Int32} {x_frameArgument : Nat → Int64} {x_operatorKind : Nat → Int32} {x_operatorValue : Nat → Int32} {x_operatorLeft : Nat → Int32} {x_workedOut : Nat → Int64} {y_classes : Int32} {y_supers : Int32} {y_objects : Int32} {y_specials : Int32} {y_depth : Int32} {y_ops : Int32} {y_held : Int32} {y_fault : Int32} {y_steps : Int32} {y_shownSteps : Int32} {y_result : Int64} {y_line : Nat → Int32} {y_lineLength : Nat → Int32} {y_has : Nat → Int32} {y_sealed : Nat → Int32} {y_initial : Nat → Int32} {y_drafted : Nat → Int32} {y_draftHas : Nat → Int32} {y_draftInitial : Nat → Int32} {y_lists : Nat → Int32} {y_listLength : Nat → Int32} {y_gone : Nat → Int32} {y_classOfObject : Nat → Int32} {y_slots : Nat → Int64} {y_parameters : Nat → Int32} {y_generic : Nat → Int32} {y_single : Nat → Int32} {y_special : Nat → Int64} {y_kind : Nat → Int32} {y_tokens : Nat → Int32} {y_with : Nat → Int32} {y_methodAt : Nat → Int32} {y_pc : Nat → Int32} {y_chosen : Nat → Int32} {y_many : Nat → Int32} {y_reached : Nat → Int32} {y_opsAt : Nat → Int32} {y_broken : Nat → Int32} {y_arguments : Nat → Int64} {y_operands : Nat → Int64} {y_operator : Nat → Int32} {y_got : Nat → Int32}
theorem mx_hasOS {post : Int32 → Prop} {m g p no : Nat} (hm : m < 24) (hg : g < 5) (hp3 : p ≤ 3) (hno : no ≤ 20) (eg : x_methodGeneric m = nI g) (ep : x_parameterCount g = nI p) (h0 : (∀ i, i < p → ¬ ∃ k, k < no ∧ x_specialiser (3 * m + i) = lN (4294967296 + k)) → post 0) (h1 : (∃ i, i < p ∧ ∃ k, k < no ∧ x_specialiser (3 * m + i) = lN (4294967296 + k)) → post 1) : wpX_hasObjectSpecial post (x_classCount, x_superCount, nI no, x_draftSpecialCount, x_state, x_stepCount, x_latestValue, x_enterGeneric, x_enterPlace, x_frameCount, x_operatorCount, x_valueCount, x_lineClass, x_lineLength, x_isSealed, x_classHasSlot, x_classSlot, x_superDraft, x_objectClass, x_objectHasSlot, x_objectSlot, x_parameterCount, x_methodGeneric, x_specialiser, x_tokenKind, x_tokenValue, x_tokenCount, x_argument, x_rank, x_orderPlace, x_frameMethod, x_framePlace, x_frameToken, x_frameOperators, x_frameArgument, x_operatorKind, x_operatorValue, x_operatorLeft, x_workedOut) (nI m) := by
  unfold wpX_hasObjectSpecial
  have em : x_methodGeneric (nI m).toNatClampNeg = nI g := by rw [bs_clk (by omega)]; exact eg
  refine loop_0 (σ := Unit) (fun n i _ => wX_hasObjectSpecial_2 post (nI m) x_classCount x_superCount (nI no) x_draftSpecialCount x_state x_stepCount x_latestValue x_enterGeneric x_enterPlace x_frameCount x_operatorCount x_valueCount x_lineClass x_lineLength x_isSealed x_classHasSlot x_classSlot x_superDraft x_objectClass x_objectHasSlot x_objectSlot x_parameterCount x_methodGeneric x_specialiser x_tokenKind x_tokenValue x_tokenCount x_argument x_rank x_orderPlace x_frameMethod x_framePlace x_frameToken x_frameOperators x_frameArgument x_operatorKind x_operatorValue x_operatorLeft x_workedOut n (nI i)) (fun i _ => ∀ j, j < i → ¬ ∃ k, k < no ∧ x_specialiser (3 * m + j) = lN (4294967296 + k)) p () lt_0 ?_ ?_
  · intro n _ hI
    refine ⟨pk_in m 24 hm, pk_in g 5 hg em, ?_⟩
    rw [em, bs_clk (n := g) (by omega), ep]
    exact br_t (nI_le (Nat.le_refl _) (by omega)) (h0 hI)
  · intro n i _ hi hI k
    refine ⟨pk_in m 24 hm, pk_in g 5 hg em, ?_⟩
    rw [em, bs_clk (n := g) (by omega), ep]
    refine br_f (nI_ge hi (by omega)) ⟨pk_in (3 * m + i) 75 (by omega) (bs_xi 3 m i), ?_⟩
    rw [bs_xi 3 m i, bs_clk (n := 3 * m + i) (by omega)]
    by_cases hb : ∃ k, k < no ∧ x_specialiser (3 * m + i) = lN (4294967296 + k)
    · obtain ⟨q, hq, e⟩ := hb
      rw [e]
      exact mx_isObject_t hno hq (br_f (by decide) (h1 ⟨i, hi, q, hq, e⟩))
    · exact mx_isObject_f hno hb (br_t rfl (nm_r (nI_1 i) (k () (lt_s hI hb))))
theorem mx_clear {post : Int32 → SX → Prop} {no : Nat} (hno : no ≤ 20) (hgen : rl_gen x_methodGeneric) (hpar : rl_par x_parameterCount) (hp : post (nI no) (x_classCount, x_superCount, 0, 0, x_state, x_stepCount, x_latestValue, x_enterGeneric, x_enterPlace, x_frameCount, x_operatorCount, x_valueCount, x_lineClass, x_lineLength, x_isSealed, x_classHasSlot, x_classSlot, x_superDraft, x_objectClass, x_objectHasSlot, x_objectSlot, x_parameterCount, cl_f x_methodGeneric (cl_b x_parameterCount x_methodGeneric x_specialiser no) 24, x_specialiser, x_tokenKind, x_tokenValue, x_tokenCount, x_argument, x_rank, x_orderPlace, x_frameMethod, x_framePlace, x_frameToken, x_frameOperators, x_frameArgument, x_operatorKind, x_operatorValue, x_operatorLeft, x_workedOut)) : wpX_clear post (x_classCount, x_superCount, nI no, x_draftSpecialCount, x_state, x_stepCount, x_latestValue, x_enterGeneric, x_enterPlace, x_frameCount, x_operatorCount, x_valueCount, x_lineClass, x_lineLength, x_isSealed, x_classHasSlot, x_classSlot, x_superDraft, x_objectClass, x_objectHasSlot, x_objectSlot, x_parameterCount, x_methodGeneric, x_specialiser, x_tokenKind, x_tokenValue, x_tokenCount, x_argument, x_rank, x_orderPlace, x_frameMethod, x_framePlace, x_frameToken, x_frameOperators, x_frameArgument, x_operatorKind, x_operatorValue, x_operatorLeft, x_workedOut) := by
  unfold wpX_clear
  refine loop_0 (σ := Nat → Int32) (fun n i s => wX_clear_2 post x_classCount x_superCount (nI no) x_draftSpecialCount x_state x_stepCount x_latestValue x_enterGeneric x_enterPlace x_frameCount x_operatorCount x_valueCount n (nI i) x_lineClass x_lineLength x_isSealed x_classHasSlot x_classSlot x_superDraft x_objectClass x_objectHasSlot x_objectSlot x_parameterCount s x_specialiser x_tokenKind x_tokenValue x_tokenCount x_argument x_rank x_orderPlace x_frameMethod x_framePlace x_frameToken x_frameOperators x_frameArgument x_operatorKind x_operatorValue x_operatorLeft x_workedOut) (fun i s => s = cl_f x_methodGeneric (cl_b x_parameterCount x_methodGeneric x_specialiser no) i) 24 x_methodGeneric (cl_0 _ _) ?_ ?_
  · rintro n s rfl
    exact br_t (nI_le (Nat.le_refl _) (by omega)) hp
  · rintro n m s hm rfl k
    refine br_f (nI_ge (b := 24) hm (by omega)) ⟨pk_in m 24 hm, ?_⟩
    rw [bs_clk (n := m) (by omega)]
    have ei := cl_i x_methodGeneric (cl_b x_parameterCount x_methodGeneric x_specialiser no) m
    rcases hgen m hm with e | ⟨g, hg, e⟩
    · refine br_t (by rw [ei]; exact e) (nm_r (nI_1 m) (k _ (cl_n ?_)))
      rintro ⟨g, p, i, q, hg, eg, _⟩
      rw [e] at eg
      exact bs_n1 (by omega) eg.symm
    · obtain ⟨p, hp1, hp3, ep⟩ := hpar g hg
      refine br_f (by rw [ei, e]; exact bs_n1 (by omega)) ?_
      refine mx_hasOS hm hg hp3 hno (by rw [ei]; exact e) ep (fun hz => br_t rfl (nm_r (nI_1 m) (k _ (cl_n ?_)))) (fun hz => br_f (by decide) ⟨pk_in m 24 hm, nm_r (cl_t ?_) (nm_r (nI_1 m) (k _ rfl))⟩)
      · rintro ⟨g', p', i, q, hg', eg, hp', ep', hi, hq, es⟩
        rw [e] at eg
        have := bs_inj (by omega) (by omega) eg
        subst this
        rw [ep] at ep'
        have := bs_inj (by omega) (by omega) ep'
        subst this
        exact hz i hi ⟨q, hq, es⟩
      · obtain ⟨i, hi, q, hq, es⟩ := hz
        exact ⟨g, p, i, q, hg, e, hp3, ep, hi, hq, es⟩
end
