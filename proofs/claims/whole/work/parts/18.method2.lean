/-! method: the reference, and both -/
section
variable {y_classes : Int32} {y_supers : Int32} {y_objects : Int32} {y_specials : Int32} {y_depth : Int32} {y_ops : Int32} {y_held : Int32} {y_fault : Int32} {y_steps : Int32} {y_shownSteps : Int32} {y_result : Int64} {y_line : Nat → Int32} {y_lineLength : Nat → Int32} {y_has : Nat → Int32} {y_sealed : Nat → Int32} {y_initial : Nat → Int32} {y_drafted : Nat → Int32} {y_draftHas : Nat → Int32} {y_draftInitial : Nat → Int32} {y_lists : Nat → Int32} {y_listLength : Nat → Int32} {y_gone : Nat → Int32} {y_classOfObject : Nat → Int32} {y_slots : Nat → Int64} {y_parameters : Nat → Int32} {y_generic : Nat → Int32} {y_single : Nat → Int32} {y_special : Nat → Int64} {y_kind : Nat → Int32} {y_tokens : Nat → Int32} {y_with : Nat → Int32} {y_methodAt : Nat → Int32} {y_pc : Nat → Int32} {y_chosen : Nat → Int32} {y_many : Nat → Int32} {y_reached : Nat → Int32} {y_opsAt : Nat → Int32} {y_broken : Nat → Int32} {y_arguments : Nat → Int64} {y_operands : Nat → Int64} {y_operator : Nat → Int32} {y_got : Nat → Int32}
theorem my_same {post : Int32 → Prop} {nc no p g m : Nat} {SP : Nat → Int64} (hnc : nc ≤ 16) (hno : no ≤ 20) (hm : m < 24) (hg : g < 5) (hp3 : p ≤ 3) (eg : y_generic m = nI g) (ep : y_parameters g = nI p) (hs : ∀ k, k < p → rl_sp nc no (SP (3 * m + k)) (y_single (3 * m + k)) (y_special (3 * m + k))) (hd : ∀ k, k < p → rl_sp nc no (SP (72 + k)) (y_single (72 + k)) (y_special (72 + k))) (h1 : (∀ k, k < p → SP (3 * m + k) = SP (72 + k)) → post 1) (h0 : (¬ ∀ k, k < p → SP (3 * m + k) = SP (72 + k)) → post 0) : wpY_same post (y_classes, y_supers, y_objects, y_specials, y_depth, y_ops, y_held, y_fault, y_steps, y_shownSteps, y_result, y_line, y_lineLength, y_has, y_sealed, y_initial, y_drafted, y_draftHas, y_draftInitial, y_lists, y_listLength, y_gone, y_classOfObject, y_slots, y_parameters, y_generic, y_single, y_special, y_kind, y_tokens, y_with, y_methodAt, y_pc, y_chosen, y_many, y_reached, y_opsAt, y_broken, y_arguments, y_operands, y_operator, y_got) (nI m) := by
  unfold wpY_same
  have em : y_generic (nI m).toNatClampNeg = nI g := by rw [bs_clk (by omega)]; exact eg
  refine ⟨pk_in m 24 hm, pk_in g 5 hg em, nm_r (e' := nI p) (by rw [em, bs_clk (by omega), ep]) ?_⟩
  refine loop_0 (σ := Unit) (fun n i _ => wY_same_14 post (nI m) (nI p) y_classes y_supers y_objects y_specials y_depth y_ops y_held y_fault y_steps y_shownSteps y_result y_line y_lineLength y_has y_sealed y_initial y_drafted y_draftHas y_draftInitial y_lists y_listLength y_gone y_classOfObject y_slots y_parameters y_generic y_single y_special y_kind y_tokens y_with y_methodAt y_pc y_chosen y_many y_reached y_opsAt y_broken y_arguments y_operands y_operator y_got n (nI i)) (fun i _ => ∀ j, j < i → SP (3 * m + j) = SP (72 + j)) p () lt_0 ?_ ?_
  · intro n _ hI
    exact br_t (nI_le (Nat.le_refl _) (by omega)) (h1 hI)
  · intro n i _ hi hI k
    have he := me_eq hnc hno (hs i hi) (hd i hi)
    refine br_f (nI_ge hi (by omega)) ⟨pk_in (3 * m + i) 75 (by omega) (bs_ix 3 m i), pk_in (72 + i) 75 (by omega) (bs_ad 72 i), ?_⟩
    rw [bs_ix 3 m i, bs_ad 72 i, bs_clk (n := 3 * m + i) (by omega), bs_clk (n := 72 + i) (by omega)]
    refine br_c (fun e => ⟨pk_in (3 * m + i) 75 (by omega), pk_in (72 + i) 75 (by omega), br_c (fun e2 => nm_r (nI_1 i) (k () (lt_s hI (he.mpr ⟨e, e2⟩)))) (fun e2 => h0 (fun z => e2 (he.mp (z i hi)).2))⟩) (fun e => h0 (fun z => e (he.mp (z i hi)).1))
theorem my_mfin {post : Int32 → SY → Prop} {nc nd g m t : Nat} (hg : g < 5) (hm : m < 24) (ht : t ≤ 16) (hk : ∀ i, i < t → rl_tk nc (y_kind (16 * 24 + i)) (y_with (16 * 24 + i))) (hz : ∀ k, k < nd → y_single (72 + k) = 0 ∨ y_single (72 + k) = 1) (hp : ∀ (SI' : Nat → Int32) (SG' : Nat → Int64), me_PY y_single SI' y_special SG' m nd 3 → post (nI m) (y_classes, y_supers, y_objects, y_specials, y_depth, y_ops, y_held, y_fault, y_steps, y_shownSteps, y_result, y_line, y_lineLength, y_has, y_sealed, y_initial, y_drafted, y_draftHas, y_draftInitial, y_lists, y_listLength, y_gone, y_classOfObject, y_slots, y_parameters, upd y_generic m (nI g), SI', SG', me_cp y_kind (16 * m) 384 t, upd y_tokens m (nI t), me_cp y_with (16 * m) 384 t, y_methodAt, y_pc, y_chosen, y_many, y_reached, y_opsAt, y_broken, y_arguments, y_operands, y_operator, y_got)) : ((0 ≤ nI m → (vp_in (nI m) 24 ∧ ∀ a_generic_14 : Nat → Int32, a_generic_14 = upd y_generic (nI m).toNatClampNeg (vp_nar .byte (nI g).toInt8.toInt32) → (∃ n225 : Nat, wY_method_225 post (nI t) (nI m) y_classes y_supers y_objects y_specials y_depth y_ops y_held y_fault y_steps y_shownSteps y_result n225 0 y_line y_lineLength y_has y_sealed y_initial y_drafted y_draftHas y_draftInitial y_lists y_listLength y_gone y_classOfObject y_slots y_parameters a_generic_14 y_single y_special y_kind y_tokens y_with y_methodAt y_pc y_chosen y_many y_reached y_opsAt y_broken y_arguments y_operands y_operator y_got))) ∧ (¬ 0 ≤ nI m → (post 8 (y_classes, y_supers, y_objects, y_specials, y_depth, y_ops, y_held, y_fault, y_steps, y_shownSteps, y_result, y_line, y_lineLength, y_has, y_sealed, y_initial, y_drafted, y_draftHas, y_draftInitial, y_lists, y_listLength, y_gone, y_classOfObject, y_slots, y_parameters, y_generic, y_single, y_special, y_kind, y_tokens, y_with, y_methodAt, y_pc, y_chosen, y_many, y_reached, y_opsAt, y_broken, y_arguments, y_operands, y_operator, y_got)))) := by
  refine br_t (bs_ge0 (by omega)) ⟨pk_in m 24 hm, nm_r (e' := upd y_generic m (nI g)) (by rw [bs_clk (by omega), bs_vb8 (by omega)]) ?_⟩
  refine loop_0 (σ := (Nat → Int32) × (Nat → Int64)) (fun n i s => wY_method_225 post (nI t) (nI m) y_classes y_supers y_objects y_specials y_depth y_ops y_held y_fault y_steps y_shownSteps y_result n (nI i) y_line y_lineLength y_has y_sealed y_initial y_drafted y_draftHas y_draftInitial y_lists y_listLength y_gone y_classOfObject y_slots y_parameters (upd y_generic m (nI g)) s.1 s.2 y_kind y_tokens y_with y_methodAt y_pc y_chosen y_many y_reached y_opsAt y_broken y_arguments y_operands y_operator y_got) (fun i s => me_PY y_single s.1 y_special s.2 m nd i) 3 (y_single, y_special) ⟨fun _ _ => ⟨rfl, rfl⟩, lt_0⟩ ?_ ?_
  · intro n s hI
    refine br_t (nI_le (Nat.le_refl _) (by omega)) ?_
    refine loop_0 (σ := (Nat → Int32) × (Nat → Int32)) (fun n i s2 => wY_method_284 post (nI t) (nI m) y_classes y_supers y_objects y_specials y_depth y_ops y_held y_fault y_steps y_shownSteps y_result n (nI i) y_line y_lineLength y_has y_sealed y_initial y_drafted y_draftHas y_draftInitial y_lists y_listLength y_gone y_classOfObject y_slots y_parameters (upd y_generic m (nI g)) s.1 s.2 s2.1 y_tokens s2.2 y_methodAt y_pc y_chosen y_many y_reached y_opsAt y_broken y_arguments y_operands y_operator y_got) (fun i s2 => s2 = (me_cp y_kind (16 * m) 384 i, me_cp y_with (16 * m) 384 i)) t (y_kind, y_with) (by rw [← me_cp_0, ← me_cp_0]) ?_ ?_
    · rintro n s2 rfl
      refine br_t (nI_le (Nat.le_refl _) (by omega)) ⟨pk_in m 25 (by omega), nm_r (e' := upd y_tokens m (nI t)) (by rw [bs_clk (by omega), bs_vb8 (by omega)]) (hp s.1 s.2 hI)⟩
    · rintro n i s2 hi rfl k
      obtain ⟨q, hq, eq, _⟩ := hk i hi
      have eq' : y_kind (384 + i) = nI q := eq
      refine br_f (nI_ge hi (by omega)) ⟨pk_in (384 + i) 400 (by omega) (bs_ad 384 i), pk_in (16 * m + i) 400 (by omega) (bs_ix 16 m i), nm_r (e' := me_cp y_kind (16 * m) 384 (i + 1)) ?_ ⟨pk_in (384 + i) 400 (by omega) (bs_ad 384 i), pk_in (16 * m + i) 400 (by omega) (bs_ix 16 m i), nm_r (e' := me_cp y_with (16 * m) 384 (i + 1)) ?_ (nm_r (nI_1 i) (k _ rfl))⟩⟩
      · dsimp only
        rw [bs_ix 16 m i, bs_ad 384 i, bs_clk (by omega), bs_clk (by omega), me_cp_n (j := 384 + i) (by omega), eq', bs_vb (by omega), ← eq', me_cp_s]
      · dsimp only
        rw [bs_ix 16 m i, bs_ad 384 i, bs_clk (by omega), bs_clk (by omega), me_cp_n (j := 384 + i) (by omega), me_cp_s]
  · intro n i s hi hI k
    refine br_f (nI_ge (b := 3) hi (by omega)) ⟨pk_in (72 + i) 75 (by omega) (bs_ad 72 i), pk_in (3 * m + i) 75 (by omega) (bs_ix 3 m i), nm_r (e' := upd s.1 (3 * m + i) (vp_nar .boolean (y_single (72 + i)))) ?_ ⟨pk_in (72 + i) 75 (by omega) (bs_ad 72 i), pk_in (3 * m + i) 75 (by omega) (bs_ix 3 m i), nm_r (e' := vp_updL s.2 (3 * m + i) (y_special (72 + i))) ?_ (nm_r (nI_1 i) (k (upd s.1 (3 * m + i) (vp_nar .boolean (y_single (72 + i))), vp_updL s.2 (3 * m + i) (y_special (72 + i))) ⟨fun j hj => ?_, fun q hq hqd => ?_⟩))⟩⟩
    · rw [bs_ix 3 m i, bs_ad 72 i, bs_clk (by omega), bs_clk (by omega), (hI.1 (72 + i) (by omega)).1]
    · rw [bs_ix 3 m i, bs_ad 72 i, bs_clk (by omega), bs_clk (by omega), (hI.1 (72 + i) (by omega)).2]
    · dsimp only
      rw [pk_un (by omega), pk_uLn (by omega)]; exact hI.1 j hj
    · dsimp only
      by_cases e : q = i
      · rw [e, pk_us, pk_uLs, bs_z (hz i (by omega))]; exact ⟨rfl, rfl⟩
      · rw [pk_un (by omega), pk_uLn (by omega)]; exact hI.2 q (by omega) hqd
theorem my_m168 {post : Int32 → SY → Prop} {nc no p g t : Nat} {SP : Nat → Int64} {at0 : Int32} (hnc : nc ≤ 16) (hno : no ≤ 20) (hg : g < 5) (hp3 : p ≤ 3) (ep : y_parameters g = nI p) (hs : ∀ m, m < 24 → y_generic m = nI g → ∀ k, k < p → rl_sp nc no (SP (3 * m + k)) (y_single (3 * m + k)) (y_special (3 * m + k))) (hd : ∀ k, k < p → rl_sp nc no (SP (72 + k)) (y_single (72 + k)) (y_special (72 + k)))
    (h1 : ∀ m, m < 24 → me_sm y_generic SP g p m → ((0 ≤ nI m → (vp_in (nI m) 24 ∧ ∀ a_generic_14 : Nat → Int32, a_generic_14 = upd y_generic (nI m).toNatClampNeg (vp_nar .byte (nI g).toInt8.toInt32) → (∃ n225 : Nat, wY_method_225 post (nI t) (nI m) y_classes y_supers y_objects y_specials y_depth y_ops y_held y_fault y_steps y_shownSteps y_result n225 0 y_line y_lineLength y_has y_sealed y_initial y_drafted y_draftHas y_draftInitial y_lists y_listLength y_gone y_classOfObject y_slots y_parameters a_generic_14 y_single y_special y_kind y_tokens y_with y_methodAt y_pc y_chosen y_many y_reached y_opsAt y_broken y_arguments y_operands y_operator y_got))) ∧ (¬ 0 ≤ nI m → (post 8 (y_classes, y_supers, y_objects, y_specials, y_depth, y_ops, y_held, y_fault, y_steps, y_shownSteps, y_result, y_line, y_lineLength, y_has, y_sealed, y_initial, y_drafted, y_draftHas, y_draftInitial, y_lists, y_listLength, y_gone, y_classOfObject, y_slots, y_parameters, y_generic, y_single, y_special, y_kind, y_tokens, y_with, y_methodAt, y_pc, y_chosen, y_many, y_reached, y_opsAt, y_broken, y_arguments, y_operands, y_operator, y_got)))))
    (h2 : (∀ m, m < 24 → ¬ me_sm y_generic SP g p m) → ((0 ≤ at0 → (vp_in at0 24 ∧ ∀ a_generic_14 : Nat → Int32, a_generic_14 = upd y_generic at0.toNatClampNeg (vp_nar .byte (nI g).toInt8.toInt32) → (∃ n225 : Nat, wY_method_225 post (nI t) at0 y_classes y_supers y_objects y_specials y_depth y_ops y_held y_fault y_steps y_shownSteps y_result n225 0 y_line y_lineLength y_has y_sealed y_initial y_drafted y_draftHas y_draftInitial y_lists y_listLength y_gone y_classOfObject y_slots y_parameters a_generic_14 y_single y_special y_kind y_tokens y_with y_methodAt y_pc y_chosen y_many y_reached y_opsAt y_broken y_arguments y_operands y_operator y_got))) ∧ (¬ 0 ≤ at0 → (post 8 (y_classes, y_supers, y_objects, y_specials, y_depth, y_ops, y_held, y_fault, y_steps, y_shownSteps, y_result, y_line, y_lineLength, y_has, y_sealed, y_initial, y_drafted, y_draftHas, y_draftInitial, y_lists, y_listLength, y_gone, y_classOfObject, y_slots, y_parameters, y_generic, y_single, y_special, y_kind, y_tokens, y_with, y_methodAt, y_pc, y_chosen, y_many, y_reached, y_opsAt, y_broken, y_arguments, y_operands, y_operator, y_got))))) : ∃ n, wY_method_168 post (nI g) (nI t) y_classes y_supers y_objects y_specials y_depth y_ops y_held y_fault y_steps y_shownSteps y_result y_line y_lineLength y_has y_sealed y_initial y_drafted y_draftHas y_draftInitial y_lists y_listLength y_gone y_classOfObject y_slots y_parameters y_generic y_single y_special y_kind y_tokens y_with y_methodAt y_pc y_chosen y_many y_reached y_opsAt y_broken y_arguments y_operands y_operator y_got n at0 0 := by
  refine loop_0 (σ := Int32) (fun n i s => wY_method_168 post (nI g) (nI t) y_classes y_supers y_objects y_specials y_depth y_ops y_held y_fault y_steps y_shownSteps y_result y_line y_lineLength y_has y_sealed y_initial y_drafted y_draftHas y_draftInitial y_lists y_listLength y_gone y_classOfObject y_slots y_parameters y_generic y_single y_special y_kind y_tokens y_with y_methodAt y_pc y_chosen y_many y_reached y_opsAt y_broken y_arguments y_operands y_operator y_got n s (nI i)) (fun i s => (s = at0 ∧ ∀ j, j < i → ¬ me_sm y_generic SP g p j) ∨ ∃ m, m < i ∧ me_sm y_generic SP g p m ∧ s = nI m) 24 at0 (Or.inl ⟨rfl, lt_0⟩) ?_ ?_
  · rintro n s (⟨rfl, h⟩ | ⟨m, hm, h, rfl⟩)
    · exact br_t (nI_le (Nat.le_refl _) (by omega)) (h2 h)
    · exact br_t (nI_le (Nat.le_refl _) (by omega)) (h1 m hm h)
  · intro n i s hi hI k
    refine br_f (nI_ge (b := 24) hi (by omega)) ⟨pk_in i 24 hi, ?_⟩
    have keep : ¬ me_sm y_generic SP g p i → wY_method_168 post (nI g) (nI t) y_classes y_supers y_objects y_specials y_depth y_ops y_held y_fault y_steps y_shownSteps y_result y_line y_lineLength y_has y_sealed y_initial y_drafted y_draftHas y_draftInitial y_lists y_listLength y_gone y_classOfObject y_slots y_parameters y_generic y_single y_special y_kind y_tokens y_with y_methodAt y_pc y_chosen y_many y_reached y_opsAt y_broken y_arguments y_operands y_operator y_got n s (nI (i + 1)) := by
      intro hn
      refine k s ?_
      rcases hI with ⟨e, h⟩ | ⟨m, hm, h, e⟩
      · exact Or.inl ⟨e, lt_s h hn⟩
      · exact Or.inr ⟨m, by omega, h, e⟩
    rw [bs_clk (n := i) (by omega)]
    refine br_c (fun e => ?_) (fun e => nm_r (nI_1 i) (keep (fun z => e z.1)))
    exact my_same hnc hno hi hg hp3 e ep (hs i hi e) hd (fun h => br_f (by decide) (nm_r (nI_1 i) (k (nI i) (Or.inr ⟨i, by omega, ⟨e, h⟩, rfl⟩)))) (fun h => br_t rfl (nm_r (nI_1 i) (keep (fun z => h z.2))))
theorem my_m140 {post : Int32 → SY → Prop} {x1 x2 : Int32} (hgen : rl_gen y_generic) (hf : ∀ f, f < 24 → y_generic f = -1 → (∀ j, j < f → ¬ y_generic j = -1) → ∃ n, wY_method_168 post x1 x2 y_classes y_supers y_objects y_specials y_depth y_ops y_held y_fault y_steps y_shownSteps y_result y_line y_lineLength y_has y_sealed y_initial y_drafted y_draftHas y_draftInitial y_lists y_listLength y_gone y_classOfObject y_slots y_parameters y_generic y_single y_special y_kind y_tokens y_with y_methodAt y_pc y_chosen y_many y_reached y_opsAt y_broken y_arguments y_operands y_operator y_got n (nI f) 0) (hz : (∀ j, j < 24 → ¬ y_generic j = -1) → ∃ n, wY_method_168 post x1 x2 y_classes y_supers y_objects y_specials y_depth y_ops y_held y_fault y_steps y_shownSteps y_result y_line y_lineLength y_has y_sealed y_initial y_drafted y_draftHas y_draftInitial y_lists y_listLength y_gone y_classOfObject y_slots y_parameters y_generic y_single y_special y_kind y_tokens y_with y_methodAt y_pc y_chosen y_many y_reached y_opsAt y_broken y_arguments y_operands y_operator y_got n (-1) 0) : ∃ n, wY_method_140 post x1 x2 y_classes y_supers y_objects y_specials y_depth y_ops y_held y_fault y_steps y_shownSteps y_result y_line y_lineLength y_has y_sealed y_initial y_drafted y_draftHas y_draftInitial y_lists y_listLength y_gone y_classOfObject y_slots y_parameters y_generic y_single y_special y_kind y_tokens y_with y_methodAt y_pc y_chosen y_many y_reached y_opsAt y_broken y_arguments y_operands y_operator y_got n (-1) 23 := by
  have key : ∀ i, i ≤ 24 → ∀ s : Int32, ((s = -1 ∧ ∀ j, i ≤ j → j < 24 → ¬ y_generic j = -1) ∨ ∃ f, i ≤ f ∧ f < 24 ∧ s = nI f ∧ y_generic f = -1 ∧ ∀ j, i ≤ j → j < f → ¬ y_generic j = -1) → wY_method_140 post x1 x2 y_classes y_supers y_objects y_specials y_depth y_ops y_held y_fault y_steps y_shownSteps y_result y_line y_lineLength y_has y_sealed y_initial y_drafted y_draftHas y_draftInitial y_lists y_listLength y_gone y_classOfObject y_slots y_parameters y_generic y_single y_special y_kind y_tokens y_with y_methodAt y_pc y_chosen y_many y_reached y_opsAt y_broken y_arguments y_operands y_operator y_got (i + 1) s (nI i + (-1)) := by
    intro i
    induction i with
    | zero =>
      rintro _ s (⟨rfl, h⟩ | ⟨f, _, hf2, rfl, h, hj⟩)
      · exact br_t (by decide) (hz (fun j hj => h j (Nat.zero_le _) hj))
      · exact br_t (by decide) (hf f hf2 h (fun j hj' => hj j (Nat.zero_le _) hj'))
    | succ i ih =>
      intro hi s hS
      rw [pk_m1]
      refine br_f (nI_pos (by omega)) ⟨pk_in i 24 (by omega), ?_⟩
      rw [bs_clk (n := i) (by omega)]
      rcases hgen i (by omega) with e | ⟨g, hg, e⟩
      · rw [e]
        refine br_f (by decide) (nm_e (ih (by omega) (nI i) (Or.inr ⟨i, Nat.le_refl _, by omega, rfl, e, fun j h1 h2 => by omega⟩)))
      · rw [e]
        refine br_t (bs_ge0 (by omega)) (nm_e (ih (by omega) s ?_))
        have hne : ¬ y_generic i = -1 := by rw [e]; exact bs_n1 (by omega)
        rcases hS with ⟨e1, h⟩ | ⟨f, h1, h2, e1, h3, h4⟩
        · refine Or.inl ⟨e1, fun j hj hj2 => ?_⟩
          by_cases ej : j = i
          · rw [ej]; exact hne
          · exact h j (by omega) hj2
        · refine Or.inr ⟨f, by omega, h2, e1, h3, fun j hj hj2 => ?_⟩
          by_cases ej : j = i
          · rw [ej]; exact hne
          · exact h4 j (by omega) hj2
  refine ⟨25, ?_⟩
  have h := key 24 (Nat.le_refl _) (-1) (Or.inl ⟨rfl, fun j h1 h2 => by omega⟩)
  rw [pk_m1 23] at h
  exact h
theorem my_m79 {post : Int32 → SY → Prop} {nc g p nd t : Nat} {s0 : Int32} (hg : g < 5) (hp3 : p ≤ 3) (ht : t ≤ 16) (ep : y_parameters g = nI p) (hk : ∀ i, i < t → rl_tk nc (y_kind (16 * 24 + i)) (y_with (16 * 24 + i))) (hs0 : (s0 = 1 ∧ nd = p ∧ rl_pn (rl_am y_parameters y_kind y_with 24) t 0 1) ∨ (s0 = 0 ∧ ¬ me_so y_parameters y_kind y_with p nd t)) (h1 : me_so y_parameters y_kind y_with p nd t → ∃ n, wY_method_140 post (nI g) (nI t) y_classes y_supers y_objects y_specials y_depth y_ops y_held y_fault y_steps y_shownSteps y_result y_line y_lineLength y_has y_sealed y_initial y_drafted y_draftHas y_draftInitial y_lists y_listLength y_gone y_classOfObject y_slots y_parameters y_generic y_single y_special y_kind y_tokens y_with y_methodAt y_pc y_chosen y_many y_reached y_opsAt y_broken y_arguments y_operands y_operator y_got n (-1) 23) (h0 : ¬ me_so y_parameters y_kind y_with p nd t → post (-4) (y_classes, y_supers, y_objects, y_specials, y_depth, y_ops, y_held, y_fault, y_steps, y_shownSteps, y_result, y_line, y_lineLength, y_has, y_sealed, y_initial, y_drafted, y_draftHas, y_draftInitial, y_lists, y_listLength, y_gone, y_classOfObject, y_slots, y_parameters, y_generic, y_single, y_special, y_kind, y_tokens, y_with, y_methodAt, y_pc, y_chosen, y_many, y_reached, y_opsAt, y_broken, y_arguments, y_operands, y_operator, y_got)) : ∃ n, wY_method_79 post (nI g) (nI t) y_classes y_supers y_objects y_specials y_depth y_ops y_held y_fault y_steps y_shownSteps y_result y_line y_lineLength y_has y_sealed y_initial y_drafted y_draftHas y_draftInitial y_lists y_listLength y_gone y_classOfObject y_slots y_parameters y_generic y_single y_special y_kind y_tokens y_with y_methodAt y_pc y_chosen y_many y_reached y_opsAt y_broken y_arguments y_operands y_operator y_got n s0 384 := by
  refine loop_0 (σ := Int32) (fun n i s => wY_method_79 post (nI g) (nI t) y_classes y_supers y_objects y_specials y_depth y_ops y_held y_fault y_steps y_shownSteps y_result y_line y_lineLength y_has y_sealed y_initial y_drafted y_draftHas y_draftInitial y_lists y_listLength y_gone y_classOfObject y_slots y_parameters y_generic y_single y_special y_kind y_tokens y_with y_methodAt y_pc y_chosen y_many y_reached y_opsAt y_broken y_arguments y_operands y_operator y_got n s (nI (384 + i))) (fun i s => (s = 1 ∧ nd = p ∧ rl_pn (rl_am y_parameters y_kind y_with 24) t 0 1 ∧ ∀ j, j < i → y_kind (384 + j) = 1 → ∃ a, a < p ∧ y_with (384 + j) = nI a) ∨ (s = 0 ∧ ¬ me_so y_parameters y_kind y_with p nd t)) t s0 ?_ ?_ ?_
  · rcases hs0 with ⟨e, h2, h3⟩ | h
    · exact Or.inl ⟨e, h2, h3, lt_0⟩
    · exact Or.inr h
  · intro n s hI
    refine br_t (by rw [bs_ad 384 t]; exact nI_le (Nat.le_refl _) (by omega)) ?_
    rcases hI with ⟨rfl, h2, h3, h4⟩ | ⟨rfl, h⟩
    · exact br_f (by decide) (h1 ⟨h2, h4, h3⟩)
    · exact br_t rfl (h0 h)
  · intro n i s hi hI k
    refine br_f (by rw [bs_ad 384 t]; exact nI_ge (by omega) (by omega)) ⟨pk_in (384 + i) 400 (by omega), ?_⟩
    rw [bs_clk (n := 384 + i) (by omega), bs_clk (n := g) (by omega), ep]
    refine br_c (fun e1 => ⟨pk_in (384 + i) 400 (by omega), pk_in g 5 hg, ?_⟩) (fun ne => nm_r (nI_1 (384 + i)) (k s ?_))
    · obtain ⟨q, hq, eq, hq1, _⟩ := hk i hi
      have e1' : y_kind (16 * 24 + i) = nI 1 := e1
      rw [e1'] at eq
      obtain ⟨a, ha, ea⟩ := hq1 (bs_inj (by omega) (by omega) eq).symm
      have ea' : y_with (384 + i) = nI a := ea
      rw [ea']
      refine pk_lt a p (fun h => nm_r (nI_1 (384 + i)) (k s ?_)) (fun h => nm_r (nI_1 (384 + i)) (k 0 (Or.inr ⟨rfl, fun z => ?_⟩)))
      · rcases hI with ⟨e, h2, h3, h4⟩ | h'
        · exact Or.inl ⟨e, h2, h3, lt_s h4 (fun _ => ⟨a, h, ea'⟩)⟩
        · exact Or.inr h'
      · obtain ⟨b, hb, eb⟩ := z.2.1 i hi e1
        rw [ea'] at eb
        have := bs_inj (by omega) (by omega) eb
        omega
    · rcases hI with ⟨e, h2, h3, h4⟩ | h'
      · exact Or.inl ⟨e, h2, h3, lt_s h4 (fun z => absurd z ne)⟩
      · exact Or.inr h'
theorem my_method {post : Int32 → SY → Prop} {nc no g p nd t : Nat} {SP : Nat → Int64} (hnc : nc ≤ 16) (hno : no ≤ 20) (hg : g < 5) (hp3 : p ≤ 3) (hnd : nd ≤ 3) (ht : t ≤ 16) (ep : y_parameters g = nI p) (et : y_tokens 24 = nI t) (hgen : rl_gen y_generic) (hpar : rl_par y_parameters) (hk : ∀ i, i < t → rl_tk nc (y_kind (16 * 24 + i)) (y_with (16 * 24 + i))) (hs : ∀ m, m < 24 → y_generic m = nI g → ∀ k, k < p → rl_sp nc no (SP (3 * m + k)) (y_single (3 * m + k)) (y_special (3 * m + k))) (hd : ∀ k, k < nd → rl_sp nc no (SP (72 + k)) (y_single (72 + k)) (y_special (72 + k)))
    (h0 : ¬ me_so y_parameters y_kind y_with p nd t → post (-4) (y_classes, y_supers, y_objects, 0, y_depth, y_ops, y_held, y_fault, y_steps, y_shownSteps, y_result, y_line, y_lineLength, y_has, y_sealed, y_initial, y_drafted, y_draftHas, y_draftInitial, y_lists, y_listLength, y_gone, y_classOfObject, y_slots, y_parameters, y_generic, y_single, y_special, y_kind, upd y_tokens 24 0, y_with, y_methodAt, y_pc, y_chosen, y_many, y_reached, y_opsAt, y_broken, y_arguments, y_operands, y_operator, y_got))
    (h8 : me_so y_parameters y_kind y_with p nd t → (∀ m, m < 24 → ¬ me_sm y_generic SP g nd m) → (∀ m, m < 24 → ¬ y_generic m = -1) → post 8 (y_classes, y_supers, y_objects, 0, y_depth, y_ops, y_held, y_fault, y_steps, y_shownSteps, y_result, y_line, y_lineLength, y_has, y_sealed, y_initial, y_drafted, y_draftHas, y_draftInitial, y_lists, y_listLength, y_gone, y_classOfObject, y_slots, y_parameters, y_generic, y_single, y_special, y_kind, upd y_tokens 24 0, y_with, y_methodAt, y_pc, y_chosen, y_many, y_reached, y_opsAt, y_broken, y_arguments, y_operands, y_operator, y_got))
    (h1 : me_so y_parameters y_kind y_with p nd t → ∀ m, m < 24 → (me_sm y_generic SP g nd m ∨ ((∀ m, m < 24 → ¬ me_sm y_generic SP g nd m) ∧ y_generic m = -1 ∧ ∀ j, j < m → ¬ y_generic j = -1)) → ∀ (SI' : Nat → Int32) (SG' : Nat → Int64), me_PY y_single SI' y_special SG' m nd 3 → post (nI m) (y_classes, y_supers, y_objects, 0, y_depth, y_ops, y_held, y_fault, y_steps, y_shownSteps, y_result, y_line, y_lineLength, y_has, y_sealed, y_initial, y_drafted, y_draftHas, y_draftInitial, y_lists, y_listLength, y_gone, y_classOfObject, y_slots, y_parameters, upd y_generic m (nI g), SI', SG', me_cp y_kind (16 * m) 384 t, upd (upd y_tokens 24 0) m (nI t), me_cp y_with (16 * m) 384 t, y_methodAt, y_pc, y_chosen, y_many, y_reached, y_opsAt, y_broken, y_arguments, y_operands, y_operator, y_got)) : wpY_method post (y_classes, y_supers, y_objects, nI nd, y_depth, y_ops, y_held, y_fault, y_steps, y_shownSteps, y_result, y_line, y_lineLength, y_has, y_sealed, y_initial, y_drafted, y_draftHas, y_draftInitial, y_lists, y_listLength, y_gone, y_classOfObject, y_slots, y_parameters, y_generic, y_single, y_special, y_kind, y_tokens, y_with, y_methodAt, y_pc, y_chosen, y_many, y_reached, y_opsAt, y_broken, y_arguments, y_operands, y_operator, y_got) (nI g) := by
  have hzz : ∀ k, k < nd → y_single (72 + k) = 0 ∨ y_single (72 + k) = 1 := fun k hkk => by
    rcases hd k hkk with h | h
    · exact Or.inl h.1
    · exact Or.inr h.1
  have h79 : ∀ s0 : Int32, ((s0 = 1 ∧ nd = p ∧ rl_pn (rl_am y_parameters y_kind y_with 24) t 0 1) ∨ (s0 = 0 ∧ ¬ me_so y_parameters y_kind y_with p nd t)) → ∃ n, wY_method_79 post (nI g) (nI t) y_classes y_supers y_objects 0 y_depth y_ops y_held y_fault y_steps y_shownSteps y_result y_line y_lineLength y_has y_sealed y_initial y_drafted y_draftHas y_draftInitial y_lists y_listLength y_gone y_classOfObject y_slots y_parameters y_generic y_single y_special y_kind (upd y_tokens 24 0) y_with y_methodAt y_pc y_chosen y_many y_reached y_opsAt y_broken y_arguments y_operands y_operator y_got n s0 384 := by
    intro s0 hs0
    refine my_m79 (nd := nd) hg hp3 ht ep hk hs0 (fun hso => ?_) (fun hso => h0 hso)
    have epd : nd = p := hso.1
    have hm1 : ∀ m, m < 24 → me_sm y_generic SP g p m → ((0 ≤ nI m → (vp_in (nI m) 24 ∧ ∀ a_generic_14 : Nat → Int32, a_generic_14 = upd y_generic (nI m).toNatClampNeg (vp_nar .byte (nI g).toInt8.toInt32) → (∃ n225 : Nat, wY_method_225 post (nI t) (nI m) y_classes y_supers y_objects 0 y_depth y_ops y_held y_fault y_steps y_shownSteps y_result n225 0 y_line y_lineLength y_has y_sealed y_initial y_drafted y_draftHas y_draftInitial y_lists y_listLength y_gone y_classOfObject y_slots y_parameters a_generic_14 y_single y_special y_kind (upd y_tokens 24 0) y_with y_methodAt y_pc y_chosen y_many y_reached y_opsAt y_broken y_arguments y_operands y_operator y_got))) ∧ (¬ 0 ≤ nI m → (post 8 (y_classes, y_supers, y_objects, 0, y_depth, y_ops, y_held, y_fault, y_steps, y_shownSteps, y_result, y_line, y_lineLength, y_has, y_sealed, y_initial, y_drafted, y_draftHas, y_draftInitial, y_lists, y_listLength, y_gone, y_classOfObject, y_slots, y_parameters, y_generic, y_single, y_special, y_kind, upd y_tokens 24 0, y_with, y_methodAt, y_pc, y_chosen, y_many, y_reached, y_opsAt, y_broken, y_arguments, y_operands, y_operator, y_got)))) := by
      intro m hm hsm
      rw [← epd] at hsm
      exact my_mfin (nd := nd) hg hm ht hk hzz (h1 hso m hm (Or.inl hsm))
    have hd' : ∀ k, k < p → rl_sp nc no (SP (72 + k)) (y_single (72 + k)) (y_special (72 + k)) := fun k hkk => hd k (by omega)
    refine my_m140 hgen (fun f hf e hj => ?_) (fun hj => ?_)
    · refine my_m168 hnc hno hg hp3 ep hs hd' hm1 (fun hno => ?_)
      rw [← epd] at hno
      exact my_mfin (nd := nd) hg hf ht hk hzz (h1 hso f hf (Or.inr ⟨hno, e, hj⟩))
    · refine my_m168 hnc hno hg hp3 ep hs hd' hm1 (fun hno => ?_)
      rw [← epd] at hno
      exact br_f (by decide) (h8 hso hno hj)
  unfold wpY_method
  refine my_out_t (n := 5) hg (by omega) (br_t rfl (nm_r et (nm_r (e' := upd y_tokens 24 0) (by rw [bs_v0]) ⟨pk_in g 5 hg, ?_⟩)))
  rw [bs_clk (n := g) (by omega), ep]
  refine pk_eq nd p (fun e => ?_) (fun e => h79 0 (Or.inr ⟨rfl, fun z => e z.1⟩))
  rw [bs_ad 384 t]
  unfold wpY_endOf
  by_cases hq : rl_pn (rl_am y_parameters y_kind y_with 24) t 0 1
  · refine ⟨t + 1, my_endA (m := 24) (t := t) (by omega) hpar ht hk t 0 1 (by omega) (by omega) hq ?_⟩
    rw [Nat.zero_add]
    exact br_t rfl (h79 1 (Or.inl ⟨rfl, e, hq⟩))
  · refine ⟨t + 1, my_endB (m := 24) (t := t) (by omega) hpar ht hk (fun r hr => ?_) t 0 1 (by omega) (by omega) hq⟩
    exact br_f hr (h79 0 (Or.inr ⟨rfl, fun z => hq z.2.2⟩))
end
