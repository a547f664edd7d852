theorem cl_il {v : Int64} (h : rl_int v) : v < 4294967296 := by
  rw [Int64.lt_iff_toInt_lt, ob_K, pk_lT (by omega)]
  have h1 := congrArg Int64.toInt h
  rw [Int32.toInt_toInt64] at h1
  have h2 := Int32.toInt_lt v.toInt32
  omega
theorem cl_ol (k : Nat) (hk : k < 20) : ¬ lN (4294967296 + k) < 4294967296 := by
  rw [ob_K, pk_lLT (by omega) (by omega)]
  omega
theorem cl_c (c k : Nat) (hc : c < 16) (hk : k < 20) : ¬ lN (8589934592 + c) = lN (4294967296 + k) := by
  rw [pk_lEQ (by omega) (by omega)]
  omega
section
variable {y_classes : Int32} {y_supers : Int32} {y_objects : Int32} {y_specials : Int32} {y_depth : Int32} {y_ops : Int32} {y_held : Int32} {y_fault : Int32} {y_steps : Int32} {y_shownSteps : Int32} {y_result : Int64} {y_line : Nat → Int32} {y_lineLength : Nat → Int32} {y_has : Nat → Int32} {y_sealed : Nat → Int32} {y_initial : Nat → Int32} {y_drafted : Nat → Int32} {y_draftHas : Nat → Int32} {y_draftInitial : Nat → Int32} {y_lists : Nat → Int32} {y_listLength : Nat → Int32} {y_gone : Nat → Int32} {y_classOfObject : Nat → Int32} {y_slots : Nat → Int64} {y_parameters : Nat → Int32} {y_generic : Nat → Int32} {y_single : Nat → Int32} {y_special : Nat → Int64} {y_kind : Nat → Int32} {y_tokens : Nat → Int32} {y_with : Nat → Int32} {y_methodAt : Nat → Int32} {y_pc : Nat → Int32} {y_chosen : Nat → Int32} {y_many : Nat → Int32} {y_reached : Nat → Int32} {y_opsAt : Nat → Int32} {y_broken : Nat → Int32} {y_arguments : Nat → Int64} {y_operands : Nat → Int64} {y_operator : Nat → Int32} {y_got : Nat → Int32}
theorem my_cl28 {post : Int32 → SY → Prop} {J17 : Int32 → (Nat → Int32) → (Nat → Int32) → (Nat → Int32) → (Nat → Int32) → (Nat → Int32) → (Nat → Int32) → (Nat → Int32) → (Nat → Int32) → (Nat → Int32) → (Nat → Int32) → (Nat → Int32) → (Nat → Int32) → (Nat → Int64) → (Nat → Int32) → (Nat → Int32) → (Nat → Int32) → (Nat → Int64) → (Nat → Int32) → (Nat → Int32) → (Nat → Int32) → (Nat → Int32) → (Nat → Int32) → (Nat → Int32) → (Nat → Int32) → (Nat → Int32) → (Nat → Int32) → (Nat → Int32) → (Nat → Int64) → (Nat → Int64) → (Nat → Int32) → (Nat → Int32) → Prop} {x1 : Int32} {SP : Nat → Int64} {nc no m g p : Nat} (hm : m < 24) (hg : g < 5) (hp1 : 1 ≤ p) (hp3 : p ≤ 3) (hnc : nc ≤ 16) (hno : no ≤ 20) (eg : y_generic m = nI g) (ep : y_parameters g = nI p) (hs : ∀ k, k < p → rl_sp nc no (SP (3 * m + k)) (y_single (3 * m + k)) (y_special (3 * m + k)))
    (h0 : (∀ i, i < p → ¬ ∃ k, k < no ∧ SP (3 * m + i) = lN (4294967296 + k)) → wY_clear_105 post J17 x1 (nI m) 0 y_classes y_supers y_objects y_specials y_depth y_ops y_held y_fault y_steps y_shownSteps y_result y_line y_lineLength y_has y_sealed y_initial y_drafted y_draftHas y_draftInitial y_lists y_listLength y_gone y_classOfObject y_slots y_parameters y_generic y_single y_special y_kind y_tokens y_with y_methodAt y_pc y_chosen y_many y_reached y_opsAt y_broken y_arguments y_operands y_operator y_got) (h1 : (∃ i, i < p ∧ ∃ k, k < no ∧ SP (3 * m + i) = lN (4294967296 + k)) → wY_clear_105 post J17 x1 (nI m) 1 y_classes y_supers y_objects y_specials y_depth y_ops y_held y_fault y_steps y_shownSteps y_result y_line y_lineLength y_has y_sealed y_initial y_drafted y_draftHas y_draftInitial y_lists y_listLength y_gone y_classOfObject y_slots y_parameters y_generic y_single y_special y_kind y_tokens y_with y_methodAt y_pc y_chosen y_many y_reached y_opsAt y_broken y_arguments y_operands y_operator y_got) : ∃ n, wY_clear_28 post J17 x1 (nI m) y_classes y_supers y_objects y_specials y_depth y_ops y_held y_fault y_steps y_shownSteps y_result y_line y_lineLength y_has y_sealed y_initial y_drafted y_draftHas y_draftInitial y_lists y_listLength y_gone y_classOfObject y_slots y_parameters y_generic y_single y_special y_kind y_tokens y_with y_methodAt y_pc y_chosen y_many y_reached y_opsAt y_broken y_arguments y_operands y_operator y_got n 0 0 := by
  have em : y_generic (nI m).toNatClampNeg = nI g := by rw [bs_clk (by omega)]; exact eg
  refine loop_0 (σ := Int32) (fun n i s => wY_clear_28 post J17 x1 (nI m) y_classes y_supers y_objects y_specials y_depth y_ops y_held y_fault y_steps y_shownSteps y_result y_line y_lineLength y_has y_sealed y_initial y_drafted y_draftHas y_draftInitial y_lists y_listLength y_gone y_classOfObject y_slots y_parameters y_generic y_single y_special y_kind y_tokens y_with y_methodAt y_pc y_chosen y_many y_reached y_opsAt y_broken y_arguments y_operands y_operator y_got n s (nI i)) (fun i s => (s = 0 ∧ ∀ j, j < i → ¬ ∃ k, k < no ∧ SP (3 * m + j) = lN (4294967296 + k)) ∨ (s = 1 ∧ ∃ j, j < i ∧ ∃ k, k < no ∧ SP (3 * m + j) = lN (4294967296 + k))) p 0 (Or.inl ⟨rfl, lt_0⟩) ?_ ?_
  · intro n s hI
    have fin : wY_clear_105 post J17 x1 (nI m) s y_classes y_supers y_objects y_specials y_depth y_ops y_held y_fault y_steps y_shownSteps y_result y_line y_lineLength y_has y_sealed y_initial y_drafted y_draftHas y_draftInitial y_lists y_listLength y_gone y_classOfObject y_slots y_parameters y_generic y_single y_special y_kind y_tokens y_with y_methodAt y_pc y_chosen y_many y_reached y_opsAt y_broken y_arguments y_operands y_operator y_got := by
      rcases hI with ⟨rfl, h⟩ | ⟨rfl, h⟩
      · exact h0 h
      · exact h1 h
    refine pk_le 3 p (fun _ => fin) (fun _ => ⟨pk_in m 24 hm, ?_⟩)
    rw [em]
    refine br_f (nI_pos (by omega)) ⟨pk_in m 24 hm, pk_in g 5 hg, ?_⟩
    rw [bs_clk (n := g) (by omega), ep]
    exact br_t (nI_le (Nat.le_refl _) (by omega)) fin
  · intro n i s hi hI k
    refine pk_le 3 i (fun _ => by omega) (fun _ => ⟨pk_in m 24 hm, ?_⟩)
    rw [em]
    refine br_f (nI_pos (by omega)) ⟨pk_in m 24 hm, pk_in g 5 hg, ?_⟩
    rw [bs_clk (n := g) (by omega), ep]
    refine br_f (nI_ge hi (by omega)) ⟨pk_in (3 * m + i) 75 (by omega) (bs_ix 3 m i), ?_⟩
    rw [bs_ix 3 m i, bs_clk (n := 3 * m + i) (by omega)]
    have keep : (¬ ∃ k, k < no ∧ SP (3 * m + i) = lN (4294967296 + k)) → wY_clear_28 post J17 x1 (nI m) y_classes y_supers y_objects y_specials y_depth y_ops y_held y_fault y_steps y_shownSteps y_result y_line y_lineLength y_has y_sealed y_initial y_drafted y_draftHas y_draftInitial y_lists y_listLength y_gone y_classOfObject y_slots y_parameters y_generic y_single y_special y_kind y_tokens y_with y_methodAt y_pc y_chosen y_many y_reached y_opsAt y_broken y_arguments y_operands y_operator y_got n s (nI (i + 1)) := by
      intro hn
      refine k s ?_
      rcases hI with ⟨e, h⟩ | ⟨e, j, hj, h⟩
      · exact Or.inl ⟨e, lt_s h hn⟩
      · exact Or.inr ⟨e, j, by omega, h⟩
    rcases hs i hi with ⟨e0, c, hc, e1, e2⟩ | ⟨e0, e1, hv⟩
    · rw [e0]
      refine br_t rfl (nm_r (cl_or s) (nm_r (nI_1 i) (keep ?_)))
      rintro ⟨q, hq, z⟩
      rw [e2] at z
      exact cl_c c q (by omega) (by omega) z
    · rw [e0]
      refine br_f (by decide) ⟨pk_in (3 * m + i) 75 (by omega), ?_⟩
      rcases hv with hv | ⟨q, hq, e⟩
      · refine br_t (cl_il hv) (nm_r (cl_or s) (nm_r (nI_1 i) (keep ?_)))
        rintro ⟨q, hq, z⟩
        rw [e1] at z
        rw [z] at hv
        exact ob_ni (by omega) hv
      · refine br_f (by rw [e]; exact cl_ol q (by omega)) (nm_r (e' := 1) ?_ (nm_r (nI_1 i) (k 1 (Or.inr ⟨rfl, i, by omega, q, hq, by rw [e1, e]⟩))))
        rcases hI with ⟨e, _⟩ | ⟨e, _⟩
        · rw [e]; rfl
        · rw [e]; rfl
theorem my_clear {post : Int32 → SY → Prop} {SP : Nat → Int64} {nc no nd : Nat} (hnc : nc ≤ 16) (hno : no ≤ 20) (hgen : rl_gen y_generic) (hpar : rl_par y_parameters) (hspc : rl_spc nc no nd y_generic y_parameters SP y_single y_special) (hp : post (nI no) (y_classes, y_supers, 0, 0, y_depth, y_ops, y_held, y_fault, y_steps, y_shownSteps, y_result, y_line, y_lineLength, y_has, y_sealed, y_initial, y_drafted, y_draftHas, y_draftInitial, y_lists, y_listLength, y_gone, y_classOfObject, y_slots, y_parameters, cl_f y_generic (cl_b y_parameters y_generic SP no) 24, y_single, y_special, y_kind, y_tokens, y_with, y_methodAt, y_pc, y_chosen, y_many, y_reached, y_opsAt, y_broken, y_arguments, y_operands, y_operator, y_got)) : wpY_clear post (y_classes, y_supers, nI no, y_specials, y_depth, y_ops, y_held, y_fault, y_steps, y_shownSteps, y_result, y_line, y_lineLength, y_has, y_sealed, y_initial, y_drafted, y_draftHas, y_draftInitial, y_lists, y_listLength, y_gone, y_classOfObject, y_slots, y_parameters, y_generic, y_single, y_special, y_kind, y_tokens, y_with, y_methodAt, y_pc, y_chosen, y_many, y_reached, y_opsAt, y_broken, y_arguments, y_operands, y_operator, y_got) := by
  unfold wpY_clear
  refine loop_0 (σ := Nat → Int32) (fun n i s => wY_clear_17 post (nI no) y_classes y_supers 0 0 y_depth y_ops y_held y_fault y_steps y_shownSteps y_result n (nI i) y_line y_lineLength y_has y_sealed y_initial y_drafted y_draftHas y_draftInitial y_lists y_listLength y_gone y_classOfObject y_slots y_parameters s y_single y_special y_kind y_tokens y_with y_methodAt y_pc y_chosen y_many y_reached y_opsAt y_broken y_arguments y_operands y_operator y_got) (fun i s => s = cl_f y_generic (cl_b y_parameters y_generic SP no) i) 24 y_generic (cl_0 _ _) ?_ ?_
  · rintro n s rfl
    exact br_t (nI_le (Nat.le_refl _) (by omega)) hp
  · rintro n m s hm rfl k
    refine br_f (nI_ge (b := 24) hm (by omega)) ?_
    have ei := cl_i y_generic (cl_b y_parameters y_generic SP no) m
    rcases hgen m hm with e | ⟨g, hg, e⟩
    · have hnb : ¬ cl_b y_parameters y_generic SP no m := by
        rintro ⟨g, p, i, q, hg, eg, _⟩
        rw [e] at eg
        exact bs_n1 (by omega) eg.symm
      refine ⟨1, br_f (nI_ge (a := 0) (b := 3) (by omega) (by omega)) ⟨pk_in m 24 hm, br_t ?_ (br_t rfl (nm_r (nI_1 m) (k _ (cl_n hnb))))⟩⟩
      rw [bs_clk (n := m) (by omega), ei, e]
      decide
    · obtain ⟨p, hp1, hp3, ep⟩ := hpar g hg
      refine my_cl28 (SP := SP) (nc := nc) (no := no) (p := p) (g := g) hm hg hp1 hp3 hnc hno (by rw [ei]; exact e) ep (fun q hq => hspc.2.2 m g p hm hg hp3 e ep q hq) (fun hz => br_t rfl (nm_r (nI_1 m) (k _ (cl_n ?_)))) (fun hz => br_f (by decide) ⟨pk_in m 24 hm, nm_r (e' := cl_f y_generic (cl_b y_parameters y_generic SP no) (m + 1)) ?_ (nm_r (nI_1 m) (k _ rfl))⟩)
      · rintro ⟨g', p', i, q, hg', eg, hp', ep', hi, hq, es⟩
        rw [e] at eg
        have := bs_inj (by omega) (by omega) eg
        subst this
        rw [ep] at ep'
        have := bs_inj (by omega) (by omega) ep'
        subst this
        exact hz i hi ⟨q, hq, es⟩
      · rw [bs_clk (by omega), bs_vm1]
        refine cl_t ?_
        obtain ⟨i, hi, q, hq, es⟩ := hz
        exact ⟨g, p, i, q, hg, e, hp3, ep, hi, hq, es⟩
end
theorem cl_inv {MG : Nat → Int32} {b : Nat → Prop} {i m g : Nat} (hg : g < 5) (hm : m < i) (h : cl_f MG b i m = nI g) : MG m = nI g ∧ ¬ b m := by
  by_cases h2 : m < i ∧ b m
  · have e : cl_f MG b i m = -1 := bs_ct h2
    rw [e] at h
    exact absurd h.symm (bs_n1 (by omega))
  · have e : cl_f MG b i m = MG m := bs_cf h2
    rw [e] at h
    exact ⟨h, fun z => h2 ⟨hm, z⟩⟩
theorem i_vc_clear {k : Nat} {u : SX} {v : SY} (I : i_Rel k u v) (hk : k + 9 ≤ 4608) : wpX_clear (fun r u' => wpY_clear (fun r' v' => r' = r ∧ i_Rel (k + 9) u' v') v) u := by
  obtain ⟨x_classCount, x_superCount, x_objectCount, x_draftSpecialCount, x_state, x_stepCount, x_latestValue, x_enterGeneric, x_enterPlace, x_frameCount, x_operatorCount, x_valueCount, x_lineClass, x_lineLength, x_isSealed, x_classHasSlot, x_classSlot, x_superDraft, x_objectClass, x_objectHasSlot, x_objectSlot, x_parameterCount, x_methodGeneric, x_specialiser, x_tokenKind, x_tokenValue, x_tokenCount, x_argument, x_rank, x_orderPlace, x_frameMethod, x_framePlace, x_frameToken, x_frameOperators, x_frameArgument, x_operatorKind, x_operatorValue, x_operatorLeft, x_workedOut⟩ := u
  obtain ⟨y_classes, y_supers, y_objects, y_specials, y_depth, y_ops, y_held, y_fault, y_steps, y_shownSteps, y_result, y_line, y_lineLength, y_has, y_sealed, y_initial, y_drafted, y_draftHas, y_draftInitial, y_lists, y_listLength, y_gone, y_classOfObject, y_slots, y_parameters, y_generic, y_single, y_special, y_kind, y_tokens, y_with, y_methodAt, y_pc, y_chosen, y_many, y_reached, y_opsAt, y_broken, y_arguments, y_operands, y_operator, y_got⟩ := v
  obtain ⟨nc, no, ns, nd, rfl, rfl, rfl, rfl, rfl, rfl, rfl, rfl, rfl, rfl, rfl, rfl, rfl, rfl, rfl, rfl, rfl, rfl, rfl, rfl, hcls, hsup, hslt, hobj, hpar, hgen, htok, hbod, hspc, hunq⟩ := I
  have hn : nc ≤ 16 := hcls.2.1
  have hno := hobj.1
  refine mx_clear hno hgen hpar (my_clear hn hno hgen hpar hspc ⟨rfl, ?_⟩)
  refine ⟨nc, 0, ns, 0, rfl, rfl, rfl, rfl, rfl, rfl, rfl, rfl, rfl, rfl, rfl, rfl, rfl, rfl, rfl, rfl, rfl, rfl, rfl, rfl, hcls, hsup, hslt, ⟨by omega, fun q hq => by omega, fun j hj => by omega⟩, hpar, fun m hm => ?_, htok, fun m g p t hm hg hp ht h1 h2 h3 => ?_, ⟨by omega, fun q hq => by omega, fun m g p hm hg hp h1 h2 q hq => ?_⟩, fun m n g p hm hn' hg hp h1 h2 h3 h4 => hunq m n g p hm hn' hg hp (cl_inv hg hm h1).1 (cl_inv hg hn' h2).1 h3 h4⟩
  · by_cases h2 : m < 24 ∧ cl_b x_parameterCount x_methodGeneric x_specialiser no m
    · exact Or.inl (bs_ct h2)
    · have e : cl_f x_methodGeneric (cl_b x_parameterCount x_methodGeneric x_specialiser no) 24 m = x_methodGeneric m := bs_cf h2
      rw [e]
      exact hgen m hm
  · exact hbod m g p t hm hg hp ht (cl_inv hg hm h1).1 h2 h3
  · obtain ⟨e, nb⟩ := cl_inv hg hm h1
    rcases hspc.2.2 m g p hm hg hp e h2 q hq with h | ⟨e0, e1, hv⟩
    · exact Or.inl h
    · refine Or.inr ⟨e0, e1, Or.inl ?_⟩
      rcases hv with hv | ⟨j, hj, ej⟩
      · exact hv
      · exact absurd ⟨g, p, q, j, hg, e, hp, h2, hq, hj, by rw [e1, ej]⟩ nb
