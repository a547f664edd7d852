/-! the merge in Y -/
def mg_Y (E : Nat → Nat → Nat) (ln : Nat → Nat) (ns : Nat) (ls ll : Nat → Int32) : Prop := (∀ k, k ≤ ns → ∀ i, i < ln k → ls (16 * k + i) = nI (E k i)) ∧ ∀ k, k ≤ ns → ll k = nI (ln k)
def mg_o (ns : Nat) (go : Nat → Int32) (G : Nat → Nat) : Prop := ∀ k, k ≤ ns → go k = nI (G k)
noncomputable def mg_y (E : Nat → Nat → Nat) (ln : Nat → Nat) (ns : Nat) (G : Nat → Nat) : Int32 := bs_ci (mg_h E ln ns G) (nI (mg_c E ln ns G)) (-1)
section
variable {y_classes : Int32} {y_supers : Int32} {y_objects : Int32} {y_specials : Int32} {y_depth : Int32} {y_ops : Int32} {y_held : Int32} {y_fault : Int32} {y_steps : Int32} {y_shownSteps : Int32} {y_result : Int64} {y_line : Nat → Int32} {y_lineLength : Nat → Int32} {y_has : Nat → Int32} {y_sealed : Nat → Int32} {y_initial : Nat → Int32} {y_drafted : Nat → Int32} {y_draftHas : Nat → Int32} {y_draftInitial : Nat → Int32} {y_lists : Nat → Int32} {y_listLength : Nat → Int32} {y_gone : Nat → Int32} {y_classOfObject : Nat → Int32} {y_slots : Nat → Int64} {y_parameters : Nat → Int32} {y_generic : Nat → Int32} {y_single : Nat → Int32} {y_special : Nat → Int64} {y_kind : Nat → Int32} {y_tokens : Nat → Int32} {y_with : Nat → Int32} {y_methodAt : Nat → Int32} {y_pc : Nat → Int32} {y_chosen : Nat → Int32} {y_many : Nat → Int32} {y_reached : Nat → Int32} {y_opsAt : Nat → Int32} {y_broken : Nat → Int32} {y_arguments : Nat → Int64} {y_operands : Nat → Int64} {y_operator : Nat → Int32} {y_got : Nat → Int32}
theorem my_behind {post : Int32 → Prop} {E : Nat → Nat → Nat} {ln : Nat → Nat} {ns nc c : Nat} {G : Nat → Nat} (hok : mg_ok E ln ns nc) (hG : ∀ k, k ≤ ns → G k ≤ ln k) (hY : mg_Y E ln ns y_lists y_listLength) (ho : mg_o ns y_gone G) (hc : c < nc) (h1 : mg_beh E ln ns G c → post 1) (h0 : ¬ mg_beh E ln ns G c → post 0) : wpY_behind post (y_classes, nI ns, y_objects, y_specials, y_depth, y_ops, y_held, y_fault, y_steps, y_shownSteps, y_result, y_line, y_lineLength, y_has, y_sealed, y_initial, y_drafted, y_draftHas, y_draftInitial, y_lists, y_listLength, y_gone, y_classOfObject, y_slots, y_parameters, y_generic, y_single, y_special, y_kind, y_tokens, y_with, y_methodAt, y_pc, y_chosen, y_many, y_reached, y_opsAt, y_broken, y_arguments, y_operands, y_operator, y_got) (nI c) := by
  have h3 := hok.1
  have h15 := hok.2.1
  unfold wpY_behind
  refine loop_0 (σ := Unit) (fun n k _ => wY_behind_2 post (nI c) y_classes (nI ns) y_objects y_specials y_depth y_ops y_held y_fault y_steps y_shownSteps y_result y_line y_lineLength y_has y_sealed y_initial y_drafted y_draftHas y_draftInitial y_lists y_listLength y_gone y_classOfObject y_slots y_parameters y_generic y_single y_special y_kind y_tokens y_with y_methodAt y_pc y_chosen y_many y_reached y_opsAt y_broken y_arguments y_operands y_operator y_got n (nI k)) (fun k _ => ∀ k', k' < k → ∀ i, G k' < i → i < ln k' → ¬ E k' i = c) (ns + 1) () lt_0 ?_ ?_
  · intro n _ hI
    refine br_t (nI_lt (by omega) (by omega)) (h0 ?_)
    rintro ⟨k', i, hk', hi1, hi2, e⟩
    exact hI k' (by omega) i hi1 hi2 e
  · intro n k _ hk hI kk
    have hk2 : k ≤ ns := by omega
    have h16 := hok.2.2.1 k hk2
    have hGk := hG k hk2
    have ell := hY.2 k hk2
    refine br_f (nI_nlt (by omega) (by omega)) ⟨pk_in k 4 (by omega), nm_r (e' := nI (G k + 1)) (by rw [bs_clk (by omega), ho k hk2, nI_1]) ?_⟩
    by_cases hlt : G k + 1 ≤ ln k
    · refine pk_loop (σ := Unit) (fun n2 i _ => wY_behind_19 post (wY_behind_2 post (nI c) y_classes (nI ns) y_objects y_specials y_depth y_ops y_held y_fault y_steps y_shownSteps y_result y_line y_lineLength y_has y_sealed y_initial y_drafted y_draftHas y_draftInitial y_lists y_listLength y_gone y_classOfObject y_slots y_parameters y_generic y_single y_special y_kind y_tokens y_with y_methodAt y_pc y_chosen y_many y_reached y_opsAt y_broken y_arguments y_operands y_operator y_got n) (nI c) (nI k) y_classes (nI ns) y_objects y_specials y_depth y_ops y_held y_fault y_steps y_shownSteps y_result y_line y_lineLength y_has y_sealed y_initial y_drafted y_draftHas y_draftInitial y_lists y_listLength y_gone y_classOfObject y_slots y_parameters y_generic y_single y_special y_kind y_tokens y_with y_methodAt y_pc y_chosen y_many y_reached y_opsAt y_broken y_arguments y_operands y_operator y_got n2 (nI i)) (fun i _ => G k < i ∧ ∀ j, G k < j → j < i → ¬ E k j = c) (ln k) (G k + 1) () hlt ⟨by omega, fun j h1 h2 => by omega⟩ ?_ ?_
      · intro n2 _ hJ
        refine ⟨pk_in k 4 (by omega), ?_⟩
        rw [bs_clk (n := k) (by omega), ell]
        exact br_t (nI_le (Nat.le_refl _) (by omega)) (nm_r (nI_1 k) (kk () (lt_s hI (fun i a b => hJ.2 i a b))))
      · intro n2 i _ hi hJ k2
        refine ⟨pk_in k 4 (by omega), ?_⟩
        rw [bs_clk (n := k) (by omega), ell]
        refine br_f (nI_ge hi (by omega)) ⟨pk_in (16 * k + i) 64 (by omega) (bs_ix 16 k i), ?_⟩
        have hE := hok.2.2.2 k hk2 i hi
        rw [bs_ix 16 k i, bs_clk (n := 16 * k + i) (by omega), hY.1 k hk2 i hi]
        refine pk_eq (E k i) c (fun e => h1 ⟨k, i, hk2, hJ.1, hi, e⟩) (fun e => nm_r (nI_1 i) (k2 () ⟨by have := hJ.1; omega, fun j a b => ?_⟩))
        by_cases ej : j = i
        · rw [ej]; exact e
        · exact hJ.2 j a (by omega)
    · refine ⟨1, pk_in k 4 (by omega), ?_⟩
      rw [bs_clk (n := k) (by omega), ell]
      exact br_t (nI_le (by omega) (by omega)) (nm_r (nI_1 k) (kk () (lt_s hI (fun i a b => by omega))))
theorem my_first {post : Int32 → Prop} {E : Nat → Nat → Nat} {ln : Nat → Nat} {ns nc : Nat} {G : Nat → Nat} (hok : mg_ok E ln ns nc) (hG : ∀ k, k ≤ ns → G k ≤ ln k) (hY : mg_Y E ln ns y_lists y_listLength) (ho : mg_o ns y_gone G) (hp : post (mg_y E ln ns G)) : wpY_first post (y_classes, nI ns, y_objects, y_specials, y_depth, y_ops, y_held, y_fault, y_steps, y_shownSteps, y_result, y_line, y_lineLength, y_has, y_sealed, y_initial, y_drafted, y_draftHas, y_draftInitial, y_lists, y_listLength, y_gone, y_classOfObject, y_slots, y_parameters, y_generic, y_single, y_special, y_kind, y_tokens, y_with, y_methodAt, y_pc, y_chosen, y_many, y_reached, y_opsAt, y_broken, y_arguments, y_operands, y_operator, y_got) := by
  have h3 := hok.1
  have h15 := hok.2.1
  unfold wpY_first
  refine loop_0 (σ := Unit) (fun n k _ => wY_first_2 post y_classes (nI ns) y_objects y_specials y_depth y_ops y_held y_fault y_steps y_shownSteps y_result y_line y_lineLength y_has y_sealed y_initial y_drafted y_draftHas y_draftInitial y_lists y_listLength y_gone y_classOfObject y_slots y_parameters y_generic y_single y_special y_kind y_tokens y_with y_methodAt y_pc y_chosen y_many y_reached y_opsAt y_broken y_arguments y_operands y_operator y_got n (nI k)) (fun k _ => ∀ j, j < k → ¬ mg_cd E ln ns G j) (ns + 1) () lt_0 ?_ ?_
  · intro n _ hI
    refine br_t (nI_lt (by omega) (by omega)) ?_
    have e : mg_k E ln ns G = ns + 1 := bs_fi_no hI
    unfold mg_y mg_h at hp
    rw [e, bs_cf (Nat.lt_irrefl _)] at hp
    exact hp
  · intro n k _ hk hI kk
    have hk2 : k ≤ ns := by omega
    have h16 := hok.2.2.1 k hk2
    have hGk := hG k hk2
    refine br_f (nI_nlt (by omega) (by omega)) ⟨pk_in k 4 (by omega), pk_in k 4 (by omega), ?_⟩
    rw [bs_clk (n := k) (by omega), ho k hk2, hY.2 k hk2]
    refine pk_eq (G k) (ln k) (fun e => nm_r (nI_1 k) (kk () (lt_s hI (fun z => by have := z.1; omega)))) (fun e => ?_)
    have hlt : G k < ln k := by omega
    have hE := hok.2.2.2 k hk2 _ hlt
    refine ⟨pk_in k 4 (by omega), pk_in (16 * k + G k) 64 (by omega) (bs_ix 16 k (G k)), nm_r (e' := nI (E k (G k))) (by rw [bs_ix 16 k (G k), bs_clk (by omega), hY.1 k hk2 _ hlt]) ?_⟩
    refine my_behind hok hG hY ho hE (fun hb => br_f (by decide) (nm_r (nI_1 k) (kk () (lt_s hI (fun z => z.2 hb))))) (fun hb => br_t rfl ?_)
    have e : mg_k E ln ns G = k := bs_fi_at hk ⟨hlt, hb⟩ hI
    unfold mg_y mg_h mg_c at hp
    rw [e, bs_ct hk] at hp
    exact hp
theorem my_m175 {post : Int32 → SY → Prop} {J158 : Int32 → Int32 → (Nat → Int32) → (Nat → Int32) → (Nat → Int32) → (Nat → Int32) → (Nat → Int32) → (Nat → Int32) → (Nat → Int32) → (Nat → Int32) → (Nat → Int32) → (Nat → Int32) → (Nat → Int32) → (Nat → Int32) → (Nat → Int64) → (Nat → Int32) → (Nat → Int32) → (Nat → Int32) → (Nat → Int64) → (Nat → Int32) → (Nat → Int32) → (Nat → Int32) → (Nat → Int32) → (Nat → Int32) → (Nat → Int32) → (Nat → Int32) → (Nat → Int32) → (Nat → Int32) → (Nat → Int32) → (Nat → Int64) → (Nat → Int64) → (Nat → Int32) → (Nat → Int32) → Prop} {x1 : Int32} {E : Nat → Nat → Nat} {ln : Nat → Nat} {ns nc : Nat} {G : Nat → Nat} (hok : mg_ok E ln ns nc) (hG : ∀ k, k ≤ ns → G k ≤ ln k) (hG' : ∀ k, k ≤ ns → mg_g E ln ns G k ≤ ln k) (hcn : mg_c E ln ns G < nc) (hY : mg_Y E ln ns y_lists y_listLength) (ho : mg_o ns y_gone G)
    (h : ∀ go', mg_o ns go' (mg_g E ln ns G) → J158 x1 (mg_y E ln ns (mg_g E ln ns G)) y_line y_lineLength y_has y_sealed y_initial y_drafted y_draftHas y_draftInitial y_lists y_listLength go' y_classOfObject y_slots y_parameters y_generic y_single y_special y_kind y_tokens y_with y_methodAt y_pc y_chosen y_many y_reached y_opsAt y_broken y_arguments y_operands y_operator y_got) : ∃ n, wY_merge_175 post J158 x1 (nI (mg_c E ln ns G)) y_classes (nI ns) y_objects y_specials y_depth y_ops y_held y_fault y_steps y_shownSteps y_result n 0 y_line y_lineLength y_has y_sealed y_initial y_drafted y_draftHas y_draftInitial y_lists y_listLength y_gone y_classOfObject y_slots y_parameters y_generic y_single y_special y_kind y_tokens y_with y_methodAt y_pc y_chosen y_many y_reached y_opsAt y_broken y_arguments y_operands y_operator y_got := by
  have h3 := hok.1
  have h15 := hok.2.1
  refine loop_0 (σ := Nat → Int32) (fun n k s => wY_merge_175 post J158 x1 (nI (mg_c E ln ns G)) y_classes (nI ns) y_objects y_specials y_depth y_ops y_held y_fault y_steps y_shownSteps y_result n (nI k) y_line y_lineLength y_has y_sealed y_initial y_drafted y_draftHas y_draftInitial y_lists y_listLength s y_classOfObject y_slots y_parameters y_generic y_single y_special y_kind y_tokens y_with y_methodAt y_pc y_chosen y_many y_reached y_opsAt y_broken y_arguments y_operands y_operator y_got) (fun k s => (∀ j, j < k → s j = nI (mg_g E ln ns G j)) ∧ ∀ j, k ≤ j → j ≤ ns → s j = nI (G j)) (ns + 1) y_gone ⟨lt_0, fun j _ hj => ho j hj⟩ ?_ ?_
  · intro n s hI
    refine br_t (nI_lt (by omega) (by omega)) ?_
    have ho' : mg_o ns s (mg_g E ln ns G) := fun j hj => hI.1 j (by omega)
    exact my_first hok hG' hY ho' (h s ho')
  · intro n k s hk hI kk
    have hk2 : k ≤ ns := by omega
    have h16 := hok.2.2.1 k hk2
    have hGk := hG k hk2
    have es := hI.2 k (Nat.le_refl _) hk2
    have keep : mg_g E ln ns G k = G k → wY_merge_175 post J158 x1 (nI (mg_c E ln ns G)) y_classes (nI ns) y_objects y_specials y_depth y_ops y_held y_fault y_steps y_shownSteps y_result n (nI (k + 1)) y_line y_lineLength y_has y_sealed y_initial y_drafted y_draftHas y_draftInitial y_lists y_listLength s y_classOfObject y_slots y_parameters y_generic y_single y_special y_kind y_tokens y_with y_methodAt y_pc y_chosen y_many y_reached y_opsAt y_broken y_arguments y_operands y_operator y_got := by
      intro e
      exact kk s ⟨lt_s hI.1 (by rw [es, e]), fun j a b => hI.2 j (by omega) b⟩
    refine br_f (nI_nlt (by omega) (by omega)) ⟨pk_in k 4 (by omega), pk_in k 4 (by omega), ?_⟩
    rw [bs_clk (n := k) (by omega), es, hY.2 k hk2]
    refine pk_le (ln k) (G k) (fun e => nm_r (nI_1 k) (keep (bs_cf (fun z => by omega)))) (fun hlt => ?_)
    have hE := hok.2.2.2 k hk2 _ hlt
    refine ⟨pk_in k 4 (by omega), pk_in (16 * k + G k) 64 (by omega) (bs_ix 16 k (G k)), ?_⟩
    rw [bs_ix 16 k (G k), bs_clk (n := 16 * k + G k) (by omega), hY.1 k hk2 _ hlt]
    refine pk_eq (E k (G k)) (mg_c E ln ns G) (fun e => ⟨pk_in k 4 (by omega), pk_in k 4 (by omega), nm_r (e' := upd s k (nI (mg_g E ln ns G k))) ?_ (nm_r (nI_1 k) (kk _ ⟨fun j hj => ?_, fun j a b => ?_⟩))⟩) (fun e => nm_r (nI_1 k) (keep (bs_cf (fun z => e z.2))))
    · have e2 : mg_g E ln ns G k = G k + 1 := bs_ct ⟨hlt, e⟩
      rw [e2, nI_1, bs_vb8 (by omega)]
    · by_cases ej : j = k
      · rw [ej, pk_us]
      · rw [pk_un ej]; exact hI.1 j (by omega)
    · rw [pk_un (by omega)]; exact hI.2 j (by omega) b
theorem my_m158 {post : Int32 → SY → Prop} {E : Nat → Nat → Nat} {ln : Nat → Nat} {ns nc : Nat} (hok : mg_ok E ln ns nc) (hY : mg_Y E ln ns y_lists y_listLength)
    (h1 : (∀ k, k ≤ ns → ¬ mg_G E ln ns (mg_N E ln ns) k < ln k) → ∀ go, post 1 (nI nc, nI ns, y_objects, y_specials, y_depth, y_ops, y_held, y_fault, y_steps, y_shownSteps, y_result, mg_ln E ln ns nc y_line (mg_N E ln ns), upd y_lineLength nc (nI (mg_N E ln ns + 1)), y_has, y_sealed, y_initial, y_drafted, y_draftHas, y_draftInitial, y_lists, y_listLength, go, y_classOfObject, y_slots, y_parameters, y_generic, y_single, y_special, y_kind, y_tokens, y_with, y_methodAt, y_pc, y_chosen, y_many, y_reached, y_opsAt, y_broken, y_arguments, y_operands, y_operator, y_got))
    (h0 : (∃ k, k ≤ ns ∧ mg_G E ln ns (mg_N E ln ns) k < ln k) → ∀ go, post 0 (nI nc, nI ns, y_objects, y_specials, y_depth, y_ops, y_held, y_fault, y_steps, y_shownSteps, y_result, mg_ln E ln ns nc y_line (mg_N E ln ns), upd y_lineLength nc (nI (mg_N E ln ns + 1)), y_has, y_sealed, y_initial, y_drafted, y_draftHas, y_draftInitial, y_lists, y_listLength, go, y_classOfObject, y_slots, y_parameters, y_generic, y_single, y_special, y_kind, y_tokens, y_with, y_methodAt, y_pc, y_chosen, y_many, y_reached, y_opsAt, y_broken, y_arguments, y_operands, y_operator, y_got)) : ∀ d q go, q + d = mg_N E ln ns → mg_o ns go (mg_G E ln ns q) → wY_merge_158 post (nI nc) (nI ns) y_objects y_specials y_depth y_ops y_held y_fault y_steps y_shownSteps y_result (d + 1) (nI (16 * nc + 1 + q)) (mg_y E ln ns (mg_G E ln ns q)) (mg_ln E ln ns nc y_line q) y_lineLength y_has y_sealed y_initial y_drafted y_draftHas y_draftInitial y_lists y_listLength go y_classOfObject y_slots y_parameters y_generic y_single y_special y_kind y_tokens y_with y_methodAt y_pc y_chosen y_many y_reached y_opsAt y_broken y_arguments y_operands y_operator y_got := by
  have h3 := hok.1
  have h15 := hok.2.1
  have hN := mg_Nle hok
  intro d
  induction d with
  | zero =>
    intro q go hq ho
    have eq : q = mg_N E ln ns := by omega
    subst eq
    have hno := mg_Nno hok
    have hGl := (mg_all hok _ (Nat.le_refl _)).1.2
    have er : mg_y E ln ns (mg_G E ln ns (mg_N E ln ns)) = -1 := bs_cf hno
    rw [er]
    refine br_t (by decide) ⟨pk_in nc 16 (by omega), nm_r (e' := upd y_lineLength nc (nI (mg_N E ln ns + 1))) ?_ ?_⟩
    · rw [bs_clk (by omega), bs_ml 16 nc, pk_sub (by omega), show 16 * nc + 1 + mg_N E ln ns - 16 * nc = mg_N E ln ns + 1 by omega, bs_vb8 (by omega)]
    · refine loop_0 (σ := Unit) (fun n k _ => wY_merge_264 post (nI nc) (nI ns) y_objects y_specials y_depth y_ops y_held y_fault y_steps y_shownSteps y_result (mg_ln E ln ns nc y_line (mg_N E ln ns)) (upd y_lineLength nc (nI (mg_N E ln ns + 1))) y_has y_sealed y_initial y_drafted y_draftHas y_draftInitial y_lists y_listLength go y_classOfObject y_slots y_parameters y_generic y_single y_special y_kind y_tokens y_with y_methodAt y_pc y_chosen y_many y_reached y_opsAt y_broken y_arguments y_operands y_operator y_got n (nI k)) (fun k _ => ∀ j, j < k → ¬ mg_G E ln ns (mg_N E ln ns) j < ln j) (ns + 1) () lt_0 ?_ ?_
      · intro n _ hI
        exact br_t (nI_lt (by omega) (by omega)) (h1 (fun k hk => hI k (by omega)) go)
      · intro n k _ hk hI kk
        have hk2 : k ≤ ns := by omega
        have h16 := hok.2.2.1 k hk2
        have hGk := hGl k hk2
        refine br_f (nI_nlt (by omega) (by omega)) ⟨pk_in k 4 (by omega), pk_in k 4 (by omega), ?_⟩
        rw [bs_clk (n := k) (by omega), ho k hk2, hY.2 k hk2]
        exact pk_le (ln k) _ (fun e => nm_r (nI_1 k) (kk () (lt_s hI (by omega)))) (fun e => h0 ⟨k, hk2, e⟩ go)
  | succ d ih =>
    intro q go hq ho
    have hh := mg_Nlt (E := E) (ln := ln) (ns := ns) (q := q) (by omega)
    have ha := (mg_all hok q (by omega)).1
    have hst := mg_step hok ha hh
    have er : mg_y E ln ns (mg_G E ln ns q) = nI (mg_c E ln ns (mg_G E ln ns q)) := bs_ct hh
    rw [er]
    have hcn := hst.2.2
    refine br_f (nI_pos (by omega)) (nm_r (nI_1 _) ⟨pk_in (16 * nc + 1 + q) 256 (by omega), nm_r (e' := mg_ln E ln ns nc y_line (q + 1)) ?_ ?_⟩)
    · rw [bs_clk (by omega), bs_vb8 (by omega)]
      rfl
    · refine my_m175 hok ha.2 hst.1.2 hcn hY ho (fun go' ho' => ?_)
      exact ih (q + 1) go' (by omega) ho'
theorem my_merge {post : Int32 → SY → Prop} {nc ns : Nat} (hcls : rl_cls nc y_line y_lineLength) (h15 : nc ≤ 15) (hsup : rl_sup nc ns y_drafted)
    (h1 : (∀ k, k ≤ ns → ¬ mg_G (mg_E y_drafted y_line ns) (mg_l y_drafted y_lineLength ns) ns (mg_N (mg_E y_drafted y_line ns) (mg_l y_drafted y_lineLength ns) ns) k < mg_l y_drafted y_lineLength ns k) → ∀ ls ll go, post 1 (nI nc, nI ns, y_objects, y_specials, y_depth, y_ops, y_held, y_fault, y_steps, y_shownSteps, y_result, mg_ln (mg_E y_drafted y_line ns) (mg_l y_drafted y_lineLength ns) ns nc y_line (mg_N (mg_E y_drafted y_line ns) (mg_l y_drafted y_lineLength ns) ns), upd y_lineLength nc (nI (mg_N (mg_E y_drafted y_line ns) (mg_l y_drafted y_lineLength ns) ns + 1)), y_has, y_sealed, y_initial, y_drafted, y_draftHas, y_draftInitial, ls, ll, go, y_classOfObject, y_slots, y_parameters, y_generic, y_single, y_special, y_kind, y_tokens, y_with, y_methodAt, y_pc, y_chosen, y_many, y_reached, y_opsAt, y_broken, y_arguments, y_operands, y_operator, y_got))
    (h0 : (∃ k, k ≤ ns ∧ mg_G (mg_E y_drafted y_line ns) (mg_l y_drafted y_lineLength ns) ns (mg_N (mg_E y_drafted y_line ns) (mg_l y_drafted y_lineLength ns) ns) k < mg_l y_drafted y_lineLength ns k) → ∀ ls ll go, post 0 (nI nc, nI ns, y_objects, y_specials, y_depth, y_ops, y_held, y_fault, y_steps, y_shownSteps, y_result, mg_ln (mg_E y_drafted y_line ns) (mg_l y_drafted y_lineLength ns) ns nc y_line (mg_N (mg_E y_drafted y_line ns) (mg_l y_drafted y_lineLength ns) ns), upd y_lineLength nc (nI (mg_N (mg_E y_drafted y_line ns) (mg_l y_drafted y_lineLength ns) ns + 1)), y_has, y_sealed, y_initial, y_drafted, y_draftHas, y_draftInitial, ls, ll, go, y_classOfObject, y_slots, y_parameters, y_generic, y_single, y_special, y_kind, y_tokens, y_with, y_methodAt, y_pc, y_chosen, y_many, y_reached, y_opsAt, y_broken, y_arguments, y_operands, y_operator, y_got)) : wpY_merge post (nI nc, nI ns, y_objects, y_specials, y_depth, y_ops, y_held, y_fault, y_steps, y_shownSteps, y_result, y_line, y_lineLength, y_has, y_sealed, y_initial, y_drafted, y_draftHas, y_draftInitial, y_lists, y_listLength, y_gone, y_classOfObject, y_slots, y_parameters, y_generic, y_single, y_special, y_kind, y_tokens, y_with, y_methodAt, y_pc, y_chosen, y_many, y_reached, y_opsAt, y_broken, y_arguments, y_operands, y_operator, y_got) := by
  have hok := mg_okL hcls h15 hsup
  have h3 := hsup.1
  unfold wpY_merge
  refine loop_0 (σ := (Nat → Int32) × (Nat → Int32)) (fun n k s => wY_merge_2 post (nI nc) (nI ns) y_objects y_specials y_depth y_ops y_held y_fault y_steps y_shownSteps y_result n (nI k) y_line y_lineLength y_has y_sealed y_initial y_drafted y_draftHas y_draftInitial s.1 s.2 y_gone y_classOfObject y_slots y_parameters y_generic y_single y_special y_kind y_tokens y_with y_methodAt y_pc y_chosen y_many y_reached y_opsAt y_broken y_arguments y_operands y_operator y_got) (fun k s => ∀ k', k' < k → (∀ i, i < mg_l y_drafted y_lineLength ns k' → s.1 (16 * k' + i) = nI (mg_E y_drafted y_line ns k' i)) ∧ s.2 k' = nI (mg_l y_drafted y_lineLength ns k') ∧ s.1 (16 * ns + k') = nI (mg_E y_drafted y_line ns ns k')) ns (y_lists, y_listLength) lt_0 ?_ ?_
  · rintro n ⟨ls, ll⟩ hI
    dsimp only at hI
    have elns : mg_l y_drafted y_lineLength ns ns = ns := if_pos rfl
    refine br_t (nI_le (Nat.le_refl _) (by omega)) ⟨pk_in ns 4 (by omega), nm_r (e' := upd ll ns (nI ns)) (by rw [bs_clk (by omega), bs_vb8 (by omega)]) ?_⟩
    have hY : mg_Y (mg_E y_drafted y_line ns) (mg_l y_drafted y_lineLength ns) ns ls (upd ll ns (nI ns)) := by
      refine ⟨fun k hk i hi => ?_, fun k hk => ?_⟩
      · by_cases e : k = ns
        · rw [e] at hi ⊢
          rw [elns] at hi
          exact (hI i hi).2.2
        · exact (hI k (by omega)).1 i hi
      · by_cases e : k = ns
        · rw [e, pk_us, elns]
        · rw [pk_un e]; exact (hI k (by omega)).2.1
    refine loop_0 (σ := Nat → Int32) (fun n k s => wY_merge_110 post (nI nc) (nI ns) y_objects y_specials y_depth y_ops y_held y_fault y_steps y_shownSteps y_result n (nI k) y_line y_lineLength y_has y_sealed y_initial y_drafted y_draftHas y_draftInitial ls (upd ll ns (nI ns)) s y_classOfObject y_slots y_parameters y_generic y_single y_special y_kind y_tokens y_with y_methodAt y_pc y_chosen y_many y_reached y_opsAt y_broken y_arguments y_operands y_operator y_got) (fun k s => ∀ j, j < k → s j = 0) (ns + 1) y_gone lt_0 ?_ ?_
    · intro n go hgo
      have ho : mg_o ns go (mg_G (mg_E y_drafted y_line ns) (mg_l y_drafted y_lineLength ns) ns 0) := fun j hj => hgo j (by omega)
      refine br_t (nI_lt (by omega) (by omega)) (nm_r (bs_ml 16 nc) (nm_r (nI_1 _) ⟨pk_in (16 * nc) 256 (by omega), nm_r (e' := mg_ln (mg_E y_drafted y_line ns) (mg_l y_drafted y_lineLength ns) ns nc y_line 0) (by rw [bs_clk (by omega), bs_vb8 (by omega)]; rfl) ?_⟩))
      refine my_first hok (fun k _ => Nat.zero_le _) hY ho ⟨mg_N (mg_E y_drafted y_line ns) (mg_l y_drafted y_lineLength ns) ns + 1, ?_⟩
      exact my_m158 hok hY (fun h go => h1 h ls _ go) (fun h go => h0 h ls _ go) _ 0 go (by omega) ho
    · intro n k s hk hI2 kk
      refine br_f (nI_nlt (by omega) (by omega)) ⟨pk_in k 4 (by omega), nm_r (e' := upd s k 0) (by rw [bs_clk (by omega), bs_v0]) (nm_r (nI_1 k) (kk _ (fun j hj => ?_)))⟩
      by_cases e : j = k
      · rw [e, pk_us]
      · rw [pk_un e]; exact hI2 j (by omega)
  · rintro n k ⟨ls, ll⟩ hk hI kk
    dsimp only at hI
    obtain ⟨c, hc, ec⟩ := hsup.2 k hk
    obtain ⟨l, hl, el, hkk⟩ := hcls.2.2 c hc
    have elk : mg_l y_drafted y_lineLength ns k = l := by
      unfold mg_l
      rw [if_neg (by omega), ec, bs_clk (by omega), el, bs_clk (by omega)]
    have eEk : ∀ i, i < l → y_line (16 * c + i) = nI (mg_E y_drafted y_line ns k i) := by
      intro i hi
      obtain ⟨e2, he2, ee2⟩ := hkk i hi
      unfold mg_E
      rw [if_neg (by omega), ec, bs_clk (by omega), ee2, bs_clk (by omega)]
    have eEns : mg_E y_drafted y_line ns ns k = c := by
      unfold mg_E
      rw [if_pos rfl, ec, bs_clk (by omega)]
    have ek : y_drafted (nI k).toNatClampNeg = nI c := by rw [bs_clk (by omega)]; exact ec
    refine br_f (nI_ge hk (by omega)) ?_
    refine loop_0 (σ := Nat → Int32) (fun n2 i s => wY_merge_12 post (wY_merge_2 post (nI nc) (nI ns) y_objects y_specials y_depth y_ops y_held y_fault y_steps y_shownSteps y_result n) (nI k) (nI nc) (nI ns) y_objects y_specials y_depth y_ops y_held y_fault y_steps y_shownSteps y_result n2 (nI i) y_line y_lineLength y_has y_sealed y_initial y_drafted y_draftHas y_draftInitial s ll y_gone y_classOfObject y_slots y_parameters y_generic y_single y_special y_kind y_tokens y_with y_methodAt y_pc y_chosen y_many y_reached y_opsAt y_broken y_arguments y_operands y_operator y_got) (fun i s => (∀ j, (j < 16 * k ∨ 16 * k + 16 ≤ j) → s j = ls j) ∧ ∀ i', i' < i → i' < l → s (16 * k + i') = nI (mg_E y_drafted y_line ns k i')) 16 ls ⟨fun _ _ => rfl, lt_0⟩ ?_ ?_
    · intro n2 s hJ
      refine br_t (nI_le (Nat.le_refl _) (by omega)) ⟨pk_in k 3 (by omega), ?_⟩
      rw [ek]
      refine ⟨pk_in c 16 (by omega), pk_in k 4 (by omega), nm_r (e' := upd ll k (nI l)) (by rw [bs_clk (n := k) (by omega), bs_clk (n := c) (by omega), el, bs_vb (by omega)]) ⟨pk_in k 3 (by omega), pk_in (16 * ns + k) 64 (by omega) (bs_ix 16 ns k), nm_r (e' := upd s (16 * ns + k) (nI c)) (by rw [bs_ix 16 ns k, bs_clk (by omega), bs_vb (by omega)]) (nm_r (nI_1 k) (kk (upd s (16 * ns + k) (nI c), upd ll k (nI l)) (fun k' hk' => ?_)))⟩⟩
      dsimp only
      by_cases e : k' = k
      · subst e
        rw [pk_us, pk_us, elk, eEns]
        refine ⟨fun i hi => ?_, rfl, rfl⟩
        rw [pk_un (by omega)]
        exact hJ.2 i (by omega) hi
      · obtain ⟨a1, a2, a3⟩ := hI k' (by omega)
        have h16 := hok.2.2.1 k' (by omega)
        refine ⟨fun i hi => ?_, ?_, ?_⟩
        · rw [pk_un (by omega), hJ.1 _ (by omega)]; exact a1 i hi
        · rw [pk_un e]; exact a2
        · rw [pk_un (by omega), hJ.1 _ (by omega)]; exact a3
    · intro n2 i s hi hJ k2
      refine br_f (nI_ge (b := 16) hi (by omega)) ⟨pk_in k 3 (by omega), ?_⟩
      rw [ek]
      refine ⟨pk_in (16 * c + i) 256 (by omega) (bs_ix 16 c i), pk_in (16 * k + i) 64 (by omega) (bs_ix 16 k i), nm_r (e' := upd s (16 * k + i) (vp_nar .byte (y_line (16 * c + i)))) (by rw [bs_ix 16 c i, bs_ix 16 k i, bs_clk (by omega), bs_clk (by omega)]) (nm_r (nI_1 i) (k2 (upd s (16 * k + i) (vp_nar .byte (y_line (16 * c + i)))) ⟨fun j hj => ?_, fun i' hi' hl' => ?_⟩))⟩
      · rw [pk_un (by omega)]; exact hJ.1 j hj
      · by_cases e : i' = i
        · rw [e] at hl' ⊢
          obtain ⟨e2, he2, ee2⟩ := hkk i hl'
          rw [pk_us, ← eEk i hl', ee2, bs_vb (by omega)]
        · rw [pk_un (by omega)]; exact hJ.2 i' (by omega) hl'
end
