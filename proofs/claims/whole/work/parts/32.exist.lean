/-! Y's walks whose arrays must be known ahead: there ARE arrays such that, for every post .. -/
theorem lq_ex {σ ρ : Type} (W : ρ → Nat → Nat → σ → Prop) (I : Nat → σ → Prop) (F : ρ → σ → Prop) (e : Nat) (hx : ∀ P n s, I e s → F P s → W P (n + 1) e s) (hs : ∀ i s, i < e → I i s → ∃ s', I (i + 1) s' ∧ ∀ P n, W P n (i + 1) s' → W P (n + 1) i s) : ∀ d i s, i + d = e → I i s → ∃ s', I e s' ∧ ∀ P, F P s' → W P (d + 1) i s := by
  intro d
  induction d with
  | zero =>
    intro i s hi hI
    have ei : i = e := by omega
    subst ei
    exact ⟨s, hI, fun P hF => hx P 0 s hI hF⟩
  | succ d ih =>
    intro i s hi hI
    obtain ⟨s1, h1, h2⟩ := hs i s (by omega) hI
    obtain ⟨s', h3, h4⟩ := ih (i + 1) s1 (by omega) h1
    exact ⟨s', h3, fun P hF => h2 P (d + 1) (h4 P hF)⟩
section
variable {y_classes : Int32} {y_supers : Int32} {y_objects : Int32} {y_specials : Int32} {y_depth : Int32} {y_ops : Int32} {y_held : Int32} {y_fault : Int32} {y_steps : Int32} {y_shownSteps : Int32} {y_result : Int64} {y_line : Nat → Int32} {y_lineLength : Nat → Int32} {y_has : Nat → Int32} {y_sealed : Nat → Int32} {y_initial : Nat → Int32} {y_drafted : Nat → Int32} {y_draftHas : Nat → Int32} {y_draftInitial : Nat → Int32} {y_lists : Nat → Int32} {y_listLength : Nat → Int32} {y_gone : Nat → Int32} {y_classOfObject : Nat → Int32} {y_slots : Nat → Int64} {y_parameters : Nat → Int32} {y_generic : Nat → Int32} {y_single : Nat → Int32} {y_special : Nat → Int64} {y_kind : Nat → Int32} {y_tokens : Nat → Int32} {y_with : Nat → Int32} {y_methodAt : Nat → Int32} {y_pc : Nat → Int32} {y_chosen : Nat → Int32} {y_many : Nat → Int32} {y_reached : Nat → Int32} {y_opsAt : Nat → Int32} {y_broken : Nat → Int32} {y_arguments : Nat → Int64} {y_operands : Nat → Int64} {y_operator : Nat → Int32} {y_got : Nat → Int32}
theorem my_make_e {nc c l no : Nat} (h : rl_cls nc y_line y_lineLength) (hc : c < nc) (hc1 : c ≠ 1) (hl : l ≤ 16) (el : y_lineLength c = nI l) (hno : no < 20) : ∃ SL' : Nat → Int64, mk_PY y_line y_has y_initial y_slots c l no SL' 4 ∧ ∀ post : Int32 → SY → Prop, post (nI no) (nI nc, y_supers, nI (no + 1), y_specials, y_depth, y_ops, y_held, y_fault, y_steps, y_shownSteps, y_result, y_line, y_lineLength, y_has, y_sealed, y_initial, y_drafted, y_draftHas, y_draftInitial, y_lists, y_listLength, y_gone, upd y_classOfObject no (nI c), SL', y_parameters, y_generic, y_single, y_special, y_kind, y_tokens, y_with, y_methodAt, y_pc, y_chosen, y_many, y_reached, y_opsAt, y_broken, y_arguments, y_operands, y_operator, y_got) → wpY_make post (nI nc, y_supers, nI no, y_specials, y_depth, y_ops, y_held, y_fault, y_steps, y_shownSteps, y_result, y_line, y_lineLength, y_has, y_sealed, y_initial, y_drafted, y_draftHas, y_draftInitial, y_lists, y_listLength, y_gone, y_classOfObject, y_slots, y_parameters, y_generic, y_single, y_special, y_kind, y_tokens, y_with, y_methodAt, y_pc, y_chosen, y_many, y_reached, y_opsAt, y_broken, y_arguments, y_operands, y_operator, y_got) (nI c) := by
  have hn16 := h.2.1
  obtain ⟨SL', hS, hk⟩ := lq_ex (σ := Nat → Int64) (ρ := Int32 → SY → Prop) (fun post n' i s => wY_make_44 post (nI c) (nI nc) y_supers (nI no) y_specials y_depth y_ops y_held y_fault y_steps y_shownSteps y_result n' (nI i) y_line y_lineLength y_has y_sealed y_initial y_drafted y_draftHas y_draftInitial y_lists y_listLength y_gone (upd y_classOfObject no (nI c)) s y_parameters y_generic y_single y_special y_kind y_tokens y_with y_methodAt y_pc y_chosen y_many y_reached y_opsAt y_broken y_arguments y_operands y_operator y_got) (fun i s => mk_PY y_line y_has y_initial y_slots c l no s i) (fun post s => post (nI no) (nI nc, y_supers, nI (no + 1), y_specials, y_depth, y_ops, y_held, y_fault, y_steps, y_shownSteps, y_result, y_line, y_lineLength, y_has, y_sealed, y_initial, y_drafted, y_draftHas, y_draftInitial, y_lists, y_listLength, y_gone, upd y_classOfObject no (nI c), s, y_parameters, y_generic, y_single, y_special, y_kind, y_tokens, y_with, y_methodAt, y_pc, y_chosen, y_many, y_reached, y_opsAt, y_broken, y_arguments, y_operands, y_operator, y_got)) 4
    (fun post n' s hI hF => br_t (nI_le (Nat.le_refl _) (by omega)) (nm_r (nI_1 no) hF))
    (by
      intro i s hi hI
      rcases mk_own_x (CH := y_has) (n := i) h hc hl el with ho | ⟨e, he, ho, _⟩
      · refine ⟨vp_updL s (4 * no + i) (-9223372036854775808), ⟨fun j hj => ?_, fun n hn => ?_⟩, fun post n' k => ?_⟩
        · rw [pk_uLn (by omega)]; exact hI.1 j hj
        · by_cases e1 : n = i
          · rw [e1, pk_uLs]; exact Or.inl ⟨ho, rfl⟩
          · rw [pk_uLn (by omega)]; exact hI.2 n (by omega)
        · refine br_f (nI_ge (b := 4) hi (by omega)) (my_giver h hc hl el hi ?_)
          rw [ho]
          exact br_f (by decide) ⟨pk_in (4 * no + i) 80 (by omega) (bs_ix 4 no i), nm_r (e' := vp_updL s (4 * no + i) (-9223372036854775808)) (by rw [bs_ix 4 no i, bs_clk (by omega)]) (nm_r (nI_1 i) k)⟩
      · refine ⟨vp_updL s (4 * no + i) (y_initial (4 * e + i)).toInt64, ⟨fun j hj => ?_, fun n hn => ?_⟩, fun post n' k => ?_⟩
        · rw [pk_uLn (by omega)]; exact hI.1 j hj
        · by_cases e1 : n = i
          · rw [e1, pk_uLs]; exact Or.inr ⟨e, by omega, ho, rfl⟩
          · rw [pk_uLn (by omega)]; exact hI.2 n (by omega)
        · refine br_f (nI_ge (b := 4) hi (by omega)) (my_giver h hc hl el hi ?_)
          rw [ho]
          exact br_t (bs_ge0 (by omega)) ⟨pk_in (4 * e + i) 64 (by omega) (bs_ix 4 e i), pk_in (4 * no + i) 80 (by omega) (bs_ix 4 no i), nm_r (e' := vp_updL s (4 * no + i) (y_initial (4 * e + i)).toInt64) (by rw [bs_ix 4 no i, bs_ix 4 e i, bs_clk (by omega), bs_clk (by omega)]) (nm_r (nI_1 i) k)⟩)
    4 0 y_slots (by omega) ⟨fun j _ => rfl, lt_0⟩
  refine ⟨SL', hS, fun post hp => ?_⟩
  unfold wpY_make
  exact my_out_t hc (by omega) (br_t rfl (pk_eq c 1 (fun e => absurd e hc1) (fun _ => pk_eq no 20 (fun e => by omega) (fun _ => ⟨pk_in no 20 hno, nm_r (e' := upd y_classOfObject no (nI c)) (by rw [bs_clk (by omega), bs_vb8 (by omega)]) ⟨5, hk post hp⟩⟩))))
theorem my_wk_mk1 {post : SY → Prop} {s d m pc : Nat} (hs : s < 120) (hd : d < 8) (hm : m < 24) (hpc : pc < 16) (eM : y_methodAt d = nI m) (eT : y_pc d = nI pc) {no : Nat} (ek : y_kind (16 * m + pc) = nI 12) (ea : y_with (16 * m + pc) = nI 1) (h5 : post (y_classes, y_supers, nI no, y_specials, nI (d + 1), y_ops, y_held, 5, nI (s + 1), y_shownSteps, y_result, y_line, y_lineLength, y_has, y_sealed, y_initial, y_drafted, y_draftHas, y_draftInitial, y_lists, y_listLength, y_gone, y_classOfObject, y_slots, y_parameters, y_generic, y_single, y_special, y_kind, y_tokens, y_with, y_methodAt, upd y_pc d (nI (pc + 1)), y_chosen, y_many, y_reached, y_opsAt, y_broken, y_arguments, y_operands, y_operator, y_got)) : wpY_work post (y_classes, y_supers, nI no, y_specials, nI (d + 1), y_ops, y_held, y_fault, nI s, y_shownSteps, y_result, y_line, y_lineLength, y_has, y_sealed, y_initial, y_drafted, y_draftHas, y_draftInitial, y_lists, y_listLength, y_gone, y_classOfObject, y_slots, y_parameters, y_generic, y_single, y_special, y_kind, y_tokens, y_with, y_methodAt, y_pc, y_chosen, y_many, y_reached, y_opsAt, y_broken, y_arguments, y_operands, y_operator, y_got) := by
  unfold wpY_work
  refine pk_eq s 120 (fun e => by omega) (fun _ => nm_r (nI_1 s) (nm_r (nI_pred d) ⟨pk_in d 8 hd, pk_in d 8 hd, pk_in d 8 hd, nm_r (e' := upd y_pc d (nI (pc + 1))) (by rw [bs_clk (n := d) (by omega), eT, nI_1, bs_vb8 (by omega)]) (nm_r (e' := nI (16 * m + pc)) (by rw [bs_clk (n := d) (by omega), eM, eT, bs_ix 16 m pc]) ⟨pk_in (16 * m + pc) 400 (by omega), nm_r (e' := y_kind (16 * m + pc)) (by rw [bs_clk (by omega)]) ?_⟩)⟩))
  rw [ek]
  refine br_f (by decide) (br_f (by decide) (br_f (by decide) (br_t rfl ⟨pk_in (16 * m + pc) 400 (by omega), ?_⟩)))
  rw [bs_clk (n := 16 * m + pc) (by omega), ea]
  unfold wpY_create
  exact br_t rfl h5
theorem my_wk_mk8 {post : SY → Prop} {s d m pc : Nat} (hs : s < 120) (hd : d < 8) (hm : m < 24) (hpc : pc < 16) (eM : y_methodAt d = nI m) (eT : y_pc d = nI pc) {c : Nat} (hc : c < 16) (hc1 : c ≠ 1) (ek : y_kind (16 * m + pc) = nI 12) (ea : y_with (16 * m + pc) = nI c) (h8 : post (y_classes, y_supers, nI 20, y_specials, nI (d + 1), y_ops, y_held, 8, nI (s + 1), y_shownSteps, y_result, y_line, y_lineLength, y_has, y_sealed, y_initial, y_drafted, y_draftHas, y_draftInitial, y_lists, y_listLength, y_gone, y_classOfObject, y_slots, y_parameters, y_generic, y_single, y_special, y_kind, y_tokens, y_with, y_methodAt, upd y_pc d (nI (pc + 1)), y_chosen, y_many, y_reached, y_opsAt, y_broken, y_arguments, y_operands, y_operator, y_got)) : wpY_work post (y_classes, y_supers, nI 20, y_specials, nI (d + 1), y_ops, y_held, y_fault, nI s, y_shownSteps, y_result, y_line, y_lineLength, y_has, y_sealed, y_initial, y_drafted, y_draftHas, y_draftInitial, y_lists, y_listLength, y_gone, y_classOfObject, y_slots, y_parameters, y_generic, y_single, y_special, y_kind, y_tokens, y_with, y_methodAt, y_pc, y_chosen, y_many, y_reached, y_opsAt, y_broken, y_arguments, y_operands, y_operator, y_got) := by
  unfold wpY_work
  refine pk_eq s 120 (fun e => by omega) (fun _ => nm_r (nI_1 s) (nm_r (nI_pred d) ⟨pk_in d 8 hd, pk_in d 8 hd, pk_in d 8 hd, nm_r (e' := upd y_pc d (nI (pc + 1))) (by rw [bs_clk (n := d) (by omega), eT, nI_1, bs_vb8 (by omega)]) (nm_r (e' := nI (16 * m + pc)) (by rw [bs_clk (n := d) (by omega), eM, eT, bs_ix 16 m pc]) ⟨pk_in (16 * m + pc) 400 (by omega), nm_r (e' := y_kind (16 * m + pc)) (by rw [bs_clk (by omega)]) ?_⟩)⟩))
  rw [ek]
  refine br_f (by decide) (br_f (by decide) (br_f (by decide) (br_t rfl ⟨pk_in (16 * m + pc) 400 (by omega), ?_⟩)))
  rw [bs_clk (n := 16 * m + pc) (by omega), ea]
  unfold wpY_create
  exact pk_eq c 1 (fun e => absurd e hc1) (fun _ => br_t rfl h8)
theorem my_wk_mk {post : SY → Prop} {s d m pc : Nat} (hs : s < 120) (hd : d < 8) (hm : m < 24) (hpc : pc < 16) (eM : y_methodAt d = nI m) (eT : y_pc d = nI pc) {nc no c : Nat} {SL' : Nat → Int64} (hc : c < 16) (hc1 : c ≠ 1) (hno : no < 20) (ek : y_kind (16 * m + pc) = nI 12) (ea : y_with (16 * m + pc) = nI c) (hm1 : ∀ P : Int32 → SY → Prop, P (nI no) (nI nc, y_supers, nI (no + 1), y_specials, nI (d + 1), y_ops, y_held, y_fault, nI (s + 1), y_shownSteps, y_result, y_line, y_lineLength, y_has, y_sealed, y_initial, y_drafted, y_draftHas, y_draftInitial, y_lists, y_listLength, y_gone, upd y_classOfObject no (nI c), SL', y_parameters, y_generic, y_single, y_special, y_kind, y_tokens, y_with, y_methodAt, upd y_pc d (nI (pc + 1)), y_chosen, y_many, y_reached, y_opsAt, y_broken, y_arguments, y_operands, y_operator, y_got) → wpY_make P (nI nc, y_supers, nI no, y_specials, nI (d + 1), y_ops, y_held, y_fault, nI (s + 1), y_shownSteps, y_result, y_line, y_lineLength, y_has, y_sealed, y_initial, y_drafted, y_draftHas, y_draftInitial, y_lists, y_listLength, y_gone, y_classOfObject, y_slots, y_parameters, y_generic, y_single, y_special, y_kind, y_tokens, y_with, y_methodAt, upd y_pc d (nI (pc + 1)), y_chosen, y_many, y_reached, y_opsAt, y_broken, y_arguments, y_operands, y_operator, y_got) (nI c)) (hp : wpY_deliver post (nI nc, y_supers, nI (no + 1), y_specials, nI (d + 1), y_ops, y_held, y_fault, nI (s + 1), y_shownSteps, y_result, y_line, y_lineLength, y_has, y_sealed, y_initial, y_drafted, y_draftHas, y_draftInitial, y_lists, y_listLength, y_gone, upd y_classOfObject no (nI c), SL', y_parameters, y_generic, y_single, y_special, y_kind, y_tokens, y_with, y_methodAt, upd y_pc d (nI (pc + 1)), y_chosen, y_many, y_reached, y_opsAt, y_broken, y_arguments, y_operands, y_operator, y_got) (lN (4294967296 + no))) : wpY_work post (nI nc, y_supers, nI no, y_specials, nI (d + 1), y_ops, y_held, y_fault, nI s, y_shownSteps, y_result, y_line, y_lineLength, y_has, y_sealed, y_initial, y_drafted, y_draftHas, y_draftInitial, y_lists, y_listLength, y_gone, y_classOfObject, y_slots, y_parameters, y_generic, y_single, y_special, y_kind, y_tokens, y_with, y_methodAt, y_pc, y_chosen, y_many, y_reached, y_opsAt, y_broken, y_arguments, y_operands, y_operator, y_got) := by
  unfold wpY_work
  refine pk_eq s 120 (fun e => by omega) (fun _ => nm_r (nI_1 s) (nm_r (nI_pred d) ⟨pk_in d 8 hd, pk_in d 8 hd, pk_in d 8 hd, nm_r (e' := upd y_pc d (nI (pc + 1))) (by rw [bs_clk (n := d) (by omega), eT, nI_1, bs_vb8 (by omega)]) (nm_r (e' := nI (16 * m + pc)) (by rw [bs_clk (n := d) (by omega), eM, eT, bs_ix 16 m pc]) ⟨pk_in (16 * m + pc) 400 (by omega), nm_r (e' := y_kind (16 * m + pc)) (by rw [bs_clk (by omega)]) ?_⟩)⟩))
  rw [ek]
  refine br_f (by decide) (br_f (by decide) (br_f (by decide) (br_t rfl ⟨pk_in (16 * m + pc) 400 (by omega), ?_⟩)))
  rw [bs_clk (n := 16 * m + pc) (by omega), ea]
  unfold wpY_create
  refine pk_eq c 1 (fun e => absurd e hc1) (fun _ => pk_eq no 20 (fun e => by omega) (fun _ => hm1 _ ?_))
  have ev : (4294967296 : Int64) + (nI no).toInt64 = lN (4294967296 + no) := by rw [ob_no (by omega), ob_K, lN_add]
  dsimp only
  rw [ev]
  exact cm_eta (fun t => by obtain ⟨z_classes, z_supers, z_objects, z_specials, z_depth, z_ops, z_held, z_fault, z_steps, z_shownSteps, z_result, z_line, z_lineLength, z_has, z_sealed, z_initial, z_drafted, z_draftHas, z_draftInitial, z_lists, z_listLength, z_gone, z_classOfObject, z_slots, z_parameters, z_generic, z_single, z_special, z_kind, z_tokens, z_with, z_methodAt, z_pc, z_chosen, z_many, z_reached, z_opsAt, z_broken, z_arguments, z_operands, z_operator, z_got⟩ := t; rfl) (C := fun Q => wpY_deliver Q _ _) hp
theorem my_so62_e {nc no g p lv : Nat} {SP ar : Nat → Int64} {L : Int32} {R : Nat → Nat → Int32} (eR : R = or_R y_line y_lineLength y_classOfObject SP ar p) (hW : or_W nc no g p y_line y_lineLength y_classOfObject y_parameters ar) (hlv : lv < 8) (ha : ∀ k, k < p → y_arguments (3 * lv + k) = ar k) (hF : ∀ q m, m < 24 → or_bit (or_sq R p L q) m → y_generic m = nI g ∧ ∀ k, k < p → rl_sp nc no (SP (3 * m + k)) (y_single (3 * m + k)) (y_special (3 * m + k))) : ∀ (d q : Nat) (ch mn bk : Nat → Int32), q + d = or_mn R p L → mn lv = nI q → bk lv = 0 → (∀ j, j < q → ch (24 * lv + j) = nI (or_ld R p (or_sq R p L j))) → (∀ f, f ≠ lv → mn f = y_many f ∧ bk f = y_broken f) → (∀ j, (j < 24 * lv ∨ 24 * lv + 24 ≤ j) → ch j = y_chosen j) → ∃ ch' mn' bk' : Nat → Int32, or_S R p L lv y_chosen y_many y_broken ch' mn' bk' ∧ ∀ post : SY → Prop, post (y_classes, y_supers, nI no, y_specials, y_depth, y_ops, y_held, y_fault, y_steps, y_shownSteps, y_result, y_line, y_lineLength, y_has, y_sealed, y_initial, y_drafted, y_draftHas, y_draftInitial, y_lists, y_listLength, y_gone, y_classOfObject, y_slots, y_parameters, y_generic, y_single, y_special, y_kind, y_tokens, y_with, y_methodAt, y_pc, ch', mn', y_reached, y_opsAt, bk', y_arguments, y_operands, y_operator, y_got) → wY_sort_62 post (nI lv) y_classes y_supers (nI no) y_specials y_depth y_ops y_held y_fault y_steps y_shownSteps y_result (d + 2) (or_sq R p L q) y_line y_lineLength y_has y_sealed y_initial y_drafted y_draftHas y_draftInitial y_lists y_listLength y_gone y_classOfObject y_slots y_parameters y_generic y_single y_special y_kind y_tokens y_with y_methodAt y_pc ch mn y_reached y_opsAt bk y_arguments y_operands y_operator y_got := by
  have hle := or_mn_le R p L
  intro d
  induction d with
  | zero =>
    intro q ch mn bk hq hmn hbk hch hf hc
    have eq : q = or_mn R p L := by omega
    have hno := or_mn_no (R := R) (p := p) (L := L)
    rw [← eq] at hno
    by_cases z : or_sq R p L q = 0
    · refine ⟨ch, mn, bk, ⟨by rw [hmn, eq], ?_, fun j hj => hch j (by omega), hf, hc⟩, fun post hp => br_t z hp⟩
      rw [← eq, bs_ct z, hbk]
    · refine ⟨ch, mn, upd bk lv 1, ⟨by rw [hmn, eq], ?_, fun j hj => hch j (by omega), fun f hfl => ⟨(hf f hfl).1, by rw [pk_un hfl]; exact (hf f hfl).2⟩, hc⟩, fun post hp => br_f z ⟨pk_in lv 8 hlv, ?_⟩⟩
      · rw [← eq, bs_cf z, pk_us]
      · rw [bs_clk (n := lv) (by omega)]
        refine br_t hbk ?_
        rw [bs_ml 3 lv]
        refine my_leader (SP := SP) hW (by omega) ha (hF q) ?_
        rw [← eR, bs_cf hno]
        refine br_f (by decide) ⟨pk_in lv 8 hlv, nm_r (e' := upd bk lv 1) (by rw [bs_clk (by omega), bs_z1]) (br_f (by decide) ?_)⟩
        exact br_f z ⟨pk_in lv 8 hlv, br_f (by rw [bs_clk (n := lv) (by omega), pk_us]; decide) hp⟩
  | succ d ih =>
    intro q ch mn bk hq hmn hbk hch hf hc
    have hl := or_mn_lt (R := R) (p := p) (L := L) (q := q) (by omega)
    have hg := bs_fi_p (p := or_good R p (or_sq R p L q)) hl
    have hz : ¬ or_sq R p L q = 0 := by
      intro z
      have h1 := hg.1
      rw [z] at h1
      exact or_bit0 (m := or_ld R p 0) (by rw [z] at hl; omega) h1
    obtain ⟨ch', mn', bk', hS, hk⟩ := ih (q + 1) (upd ch (24 * lv + q) (nI (or_ld R p (or_sq R p L q)))) (upd mn lv (nI (q + 1))) (upd bk lv 0) (by omega) pk_us pk_us (fun j hj => by
      by_cases e : j = q
      · rw [e, pk_us]
      · rw [pk_un (by omega)]; exact hch j (by omega)) (fun f hfl => by rw [pk_un hfl, pk_un hfl]; exact hf f hfl) (fun j hj => by rw [pk_un (by omega)]; exact hc j hj)
    refine ⟨ch', mn', bk', hS, fun post hp => br_f hz ⟨pk_in lv 8 hlv, ?_⟩⟩
    rw [bs_clk (n := lv) (by omega)]
    refine br_t hbk ?_
    rw [bs_ml 3 lv]
    refine my_leader (SP := SP) hW (by omega) ha (hF q) ?_
    rw [← eR, bs_ct hl]
    refine br_t (bs_ge0 (by omega)) ⟨pk_in lv 8 hlv, nm_r (e' := upd bk lv 0) (by rw [bs_clk (by omega), bs_z0]) (br_t (bs_ge0 (by omega)) ⟨pk_in lv 8 hlv, pk_in lv 8 hlv, nm_r (e' := upd mn lv (nI (q + 1))) ?_ ⟨?_, nm_r (e' := upd ch (24 * lv + q) (nI (or_ld R p (or_sq R p L q)))) ?_ (nm_r (e' := or_sq R p L (q + 1)) (or_sq_t hl) (hk post hp))⟩⟩)⟩
    · rw [bs_clk (by omega), hmn, nI_1, bs_vb8 (by omega)]
    · rw [bs_clk (n := lv) (by omega), hmn]
      exact pk_in (24 * lv + q) 192 (by omega) (bs_ix 24 lv q)
    · rw [bs_clk (n := lv) (by omega), hmn, bs_ix 24 lv q, bs_clk (by omega), bs_vb8 (by omega)]
theorem my_sort_e {nc no g p lv : Nat} {SP ar : Nat → Int64} {R : Nat → Nat → Int32} (eR : R = or_R y_line y_lineLength y_classOfObject SP ar p) (hW : or_W nc no g p y_line y_lineLength y_classOfObject y_parameters ar) (hlv : lv < 8) (ha : ∀ k, k < p → y_arguments (3 * lv + k) = ar k) (hs : ∀ m, m < 24 → y_generic m = nI g → ∀ k, k < p → rl_sp nc no (SP (3 * m + k)) (y_single (3 * m + k)) (y_special (3 * m + k))) : ∃ ch' mn' bk' : Nat → Int32, or_S R p (or_L y_generic R g p) lv y_chosen y_many y_broken ch' mn' bk' ∧ ∀ post : SY → Prop, post (y_classes, y_supers, nI no, y_specials, y_depth, y_ops, y_held, y_fault, y_steps, y_shownSteps, y_result, y_line, y_lineLength, y_has, y_sealed, y_initial, y_drafted, y_draftHas, y_draftInitial, y_lists, y_listLength, y_gone, y_classOfObject, y_slots, y_parameters, y_generic, y_single, y_special, y_kind, y_tokens, y_with, y_methodAt, y_pc, ch', mn', y_reached, y_opsAt, bk', y_arguments, y_operands, y_operator, y_got) → wpY_sort post (y_classes, y_supers, nI no, y_specials, y_depth, y_ops, y_held, y_fault, y_steps, y_shownSteps, y_result, y_line, y_lineLength, y_has, y_sealed, y_initial, y_drafted, y_draftHas, y_draftInitial, y_lists, y_listLength, y_gone, y_classOfObject, y_slots, y_parameters, y_generic, y_single, y_special, y_kind, y_tokens, y_with, y_methodAt, y_pc, y_chosen, y_many, y_reached, y_opsAt, y_broken, y_arguments, y_operands, y_operator, y_got) (nI g) (nI lv) := by
  obtain ⟨ch', mn', bk', hS, hk⟩ := my_so62_e (L := or_L y_generic R g p) eR hW hlv ha (fun q m hm hb => by
    have hP := or_LF hm hb
    exact ⟨hP.1, hs m hm hP.1⟩) (or_mn R p (or_L y_generic R g p)) 0 y_chosen (upd y_many lv 0) (upd y_broken lv 0) (by omega) pk_us pk_us lt_0 (fun f hfl => by rw [pk_un hfl, pk_un hfl]; exact ⟨rfl, rfl⟩) (fun j _ => rfl)
  refine ⟨ch', mn', bk', hS, fun post hp => ?_⟩
  unfold wpY_sort
  refine loop_0 (σ := Int32) (fun n i s => wY_sort_5 post (nI g) (nI lv) y_classes y_supers (nI no) y_specials y_depth y_ops y_held y_fault y_steps y_shownSteps y_result y_line y_lineLength y_has y_sealed y_initial y_drafted y_draftHas y_draftInitial y_lists y_listLength y_gone y_classOfObject y_slots y_parameters y_generic y_single y_special y_kind y_tokens y_with y_methodAt y_pc y_chosen y_many y_reached y_opsAt y_broken y_arguments y_operands y_operator y_got n s (nI i)) (fun i s => s = or_ap (or_P y_generic R g p) i) 24 0 rfl ?_ ?_
  · rintro n s rfl
    exact br_t (nI_le (Nat.le_refl _) (by omega)) ⟨pk_in lv 8 hlv, nm_r (e' := upd y_many lv 0) (by rw [bs_clk (by omega), bs_v0]) ⟨pk_in lv 8 hlv, nm_r (e' := upd y_broken lv 0) (by rw [bs_clk (by omega), bs_z0]) ⟨or_mn R p (or_L y_generic R g p) + 2, hk post hp⟩⟩⟩
  · rintro n i s hi rfl k
    refine br_f (nI_ge (b := 24) hi (by omega)) ⟨pk_in i 24 hi, ?_⟩
    rw [bs_clk (n := i) (by omega)]
    refine br_c (fun eg => ?_) (fun ng => nm_r (nI_1 i) (k _ (or_ap_f (fun z => ng z.1))))
    rw [bs_ml 3 lv]
    refine my_applicable (SP := SP) hW hi (by omega) eg ha (hs i hi eg) (fun happ => ?_) (fun hn => ?_)
    · rw [← eR] at happ
      exact br_f (by decide) (nm_r (e' := or_ap (or_P y_generic R g p) (i + 1)) (or_ap_t ⟨eg, happ⟩) (nm_r (nI_1 i) (k _ rfl)))
    · rw [← eR] at hn
      exact br_t rfl (nm_r (nI_1 i) (k _ (or_ap_f (fun z => hn z.2))))
theorem my_enter_e {nc no g p d oc : Nat} {SP ar : Nat → Int64} {R : Nat → Nat → Int32} {L : Int32} (eR : R = or_R y_line y_lineLength y_classOfObject SP ar p) (eL : L = or_L y_generic R g p) (hW : or_W nc no g p y_line y_lineLength y_classOfObject y_parameters ar) (hd : d ≤ 8) (hoc : oc < 128) (ha : ∀ k, k < p → y_arguments (3 * d + k) = ar k) (hs : ∀ m, m < 24 → y_generic m = nI g → ∀ k, k < p → rl_sp nc no (SP (3 * m + k)) (y_single (3 * m + k)) (y_special (3 * m + k))) : ∃ ch mn bk : Nat → Int32, (d < 8 → or_S R p L d y_chosen y_many y_broken ch mn bk) ∧ ∀ post : SY → Prop, (or_mn R p L = 0 → ¬ L = 0 → post (y_classes, y_supers, nI no, y_specials, nI d, nI oc, y_held, 2, y_steps, y_shownSteps, y_result, y_line, y_lineLength, y_has, y_sealed, y_initial, y_drafted, y_draftHas, y_draftInitial, y_lists, y_listLength, y_gone, y_classOfObject, y_slots, y_parameters, y_generic, y_single, y_special, y_kind, y_tokens, y_with, y_methodAt, y_pc, ch, mn, y_reached, y_opsAt, bk, y_arguments, y_operands, y_operator, y_got)) → (or_mn R p L = 0 → L = 0 → post (y_classes, y_supers, nI no, y_specials, nI d, nI oc, y_held, 1, y_steps, y_shownSteps, y_result, y_line, y_lineLength, y_has, y_sealed, y_initial, y_drafted, y_draftHas, y_draftInitial, y_lists, y_listLength, y_gone, y_classOfObject, y_slots, y_parameters, y_generic, y_single, y_special, y_kind, y_tokens, y_with, y_methodAt, y_pc, ch, mn, y_reached, y_opsAt, bk, y_arguments, y_operands, y_operator, y_got)) → (0 < or_mn R p L → d = 8 → post (y_classes, y_supers, nI no, y_specials, nI d, nI oc, y_held, 6, y_steps, y_shownSteps, y_result, y_line, y_lineLength, y_has, y_sealed, y_initial, y_drafted, y_draftHas, y_draftInitial, y_lists, y_listLength, y_gone, y_classOfObject, y_slots, y_parameters, y_generic, y_single, y_special, y_kind, y_tokens, y_with, y_methodAt, y_pc, ch, mn, y_reached, y_opsAt, bk, y_arguments, y_operands, y_operator, y_got)) → (0 < or_mn R p L → d < 8 → post (y_classes, y_supers, nI no, y_specials, nI (d + 1), nI oc, y_held, y_fault, y_steps, y_shownSteps, y_result, y_line, y_lineLength, y_has, y_sealed, y_initial, y_drafted, y_draftHas, y_draftInitial, y_lists, y_listLength, y_gone, y_classOfObject, y_slots, y_parameters, y_generic, y_single, y_special, y_kind, y_tokens, y_with, upd y_methodAt d (nI (or_ld R p L)), upd y_pc d 0, ch, mn, upd y_reached d 0, upd y_opsAt d (nI oc), bk, y_arguments, y_operands, y_operator, y_got)) → wpY_enter post (y_classes, y_supers, nI no, y_specials, nI d, nI oc, y_held, y_fault, y_steps, y_shownSteps, y_result, y_line, y_lineLength, y_has, y_sealed, y_initial, y_drafted, y_draftHas, y_draftInitial, y_lists, y_listLength, y_gone, y_classOfObject, y_slots, y_parameters, y_generic, y_single, y_special, y_kind, y_tokens, y_with, y_methodAt, y_pc, y_chosen, y_many, y_reached, y_opsAt, y_broken, y_arguments, y_operands, y_operator, y_got) (nI g) := by
  have hle := or_mn_le R p L
  by_cases hd8 : d = 8
  · subst hd8
    refine ⟨y_chosen, y_many, y_broken, fun z => by omega, fun post h2 h1 h6 hp => ?_⟩
    unfold wpY_enter
    refine br_t rfl ?_
    have hz : ¬ or_ld R p L < 24 → or_mn R p L = 0 := by
      intro h
      by_cases z : 0 < or_mn R p L
      · exact absurd (or_mn_lt z) h
      · omega
    refine my_sortAside (SP := SP) (R := R) eR hW ha hs (fun z => ?_) (fun z hl => ?_) (fun z hl => ?_)
    · rw [← eL] at z
      refine h1 (hz (fun hl => ?_)) z
      have hg := bs_fi_p (p := or_good R p L) hl
      have h9 := hg.1
      rw [z] at h9 hl
      exact or_bit0 (m := or_ld R p 0) (by omega) h9
    · rw [← eL] at z hl
      refine h6 ?_ rfl
      by_cases c : or_mn R p L = 0
      · have := or_mn_no (R := R) (p := p) (L := L)
        rw [c] at this
        exact absurd hl this
      · omega
    · rw [← eL] at z hl
      exact h2 (hz hl) z
  · obtain ⟨ch, mn, bk, hS, hk⟩ := my_sort_e (SP := SP) (R := R) eR hW (show d < 8 by omega) ha hs
    rw [← eL] at hS
    refine ⟨ch, mn, bk, fun _ => hS, fun post h2 h1 h6 hp => ?_⟩
    unfold wpY_enter
    refine pk_eq d 8 (fun e => absurd e hd8) (fun _ => hk _ ⟨pk_in d 8 (by omega), ?_⟩)
    obtain ⟨s1, s2, s3, _, _⟩ := hS
    rw [bs_clk (n := d) (by omega), s1]
    refine pk_eq (or_mn R p L) 0 (fun z => ⟨pk_in d 8 (by omega), ?_⟩) (fun z => ?_)
    · rw [s2, z]
      have e0 : or_sq R p L 0 = L := rfl
      rw [e0]
      by_cases zl : L = 0
      · rw [bs_ct zl]; exact br_t rfl (h1 z zl)
      · rw [bs_cf zl]; exact br_f (by decide) (h2 z zl)
    · have h0 := s3 0 (by omega)
      have hl := or_mn_lt (R := R) (p := p) (L := L) (q := 0) (by omega)
      exact my_begin (pl := 0) (by omega) (by omega) hl hoc h0 (hp (by omega) (by omega))
theorem my_next_e {d pl mnN oc x : Nat} (hd : d < 7) (hpl : pl + 1 < mnN) (hmn : mnN ≤ 24) (hoc : oc < 128) (hx : x < 24) (eR : y_reached d = nI pl) (eN : y_many d = nI mnN) (eB : y_broken d = 0 ∨ y_broken d = 1) (eC : ∀ j, j < mnN → ∃ x, x < 24 ∧ y_chosen (24 * d + j) = nI x) (ex : y_chosen (24 * d + (pl + 1)) = nI x) : ∃ ch : Nat → Int32, ((∀ j, j < mnN → ch (24 * (d + 1) + j) = y_chosen (24 * d + j)) ∧ ∀ j, j < 24 * (d + 1) → ch j = y_chosen j) ∧ ∀ post : SY → Prop, post (y_classes, y_supers, y_objects, y_specials, nI (d + 2), nI oc, y_held, y_fault, y_steps, y_shownSteps, y_result, y_line, y_lineLength, y_has, y_sealed, y_initial, y_drafted, y_draftHas, y_draftInitial, y_lists, y_listLength, y_gone, y_classOfObject, y_slots, y_parameters, y_generic, y_single, y_special, y_kind, y_tokens, y_with, upd y_methodAt (d + 1) (nI x), upd y_pc (d + 1) 0, ch, upd y_many (d + 1) (nI mnN), upd y_reached (d + 1) (nI (pl + 1)), upd y_opsAt (d + 1) (nI oc), upd y_broken (d + 1) (y_broken d), ca_ag y_arguments (3 * (d + 1)) (y_arguments (3 * d)) (y_arguments (3 * d + 1)) (y_arguments (3 * d + 2)), y_operands, y_operator, y_got) → wpY_next post (y_classes, y_supers, y_objects, y_specials, nI (d + 1), nI oc, y_held, y_fault, y_steps, y_shownSteps, y_result, y_line, y_lineLength, y_has, y_sealed, y_initial, y_drafted, y_draftHas, y_draftInitial, y_lists, y_listLength, y_gone, y_classOfObject, y_slots, y_parameters, y_generic, y_single, y_special, y_kind, y_tokens, y_with, y_methodAt, y_pc, y_chosen, y_many, y_reached, y_opsAt, y_broken, y_arguments, y_operands, y_operator, y_got) := by
  obtain ⟨ch, hS, hk⟩ := lq_ex (σ := Nat → Int32) (ρ := SY → Prop) (fun post n i s => wY_next_63 post (nI d) (nI (pl + 1)) y_classes y_supers y_objects y_specials (nI (d + 1)) (nI oc) y_held y_fault y_steps y_shownSteps y_result n (nI i) y_line y_lineLength y_has y_sealed y_initial y_drafted y_draftHas y_draftInitial y_lists y_listLength y_gone y_classOfObject y_slots y_parameters y_generic y_single y_special y_kind y_tokens y_with y_methodAt y_pc s y_many y_reached y_opsAt y_broken y_arguments y_operands y_operator y_got) (fun i s => (∀ j, j < i → j < mnN → s (24 * (d + 1) + j) = y_chosen (24 * d + j)) ∧ ∀ j, j < 24 * (d + 1) → s j = y_chosen j) (fun post s => post (y_classes, y_supers, y_objects, y_specials, nI (d + 2), nI oc, y_held, y_fault, y_steps, y_shownSteps, y_result, y_line, y_lineLength, y_has, y_sealed, y_initial, y_drafted, y_draftHas, y_draftInitial, y_lists, y_listLength, y_gone, y_classOfObject, y_slots, y_parameters, y_generic, y_single, y_special, y_kind, y_tokens, y_with, upd y_methodAt (d + 1) (nI x), upd y_pc (d + 1) 0, s, upd y_many (d + 1) (nI mnN), upd y_reached (d + 1) (nI (pl + 1)), upd y_opsAt (d + 1) (nI oc), upd y_broken (d + 1) (y_broken d), ca_ag y_arguments (3 * (d + 1)) (y_arguments (3 * d)) (y_arguments (3 * d + 1)) (y_arguments (3 * d + 2)), y_operands, y_operator, y_got)) 24
    (by
      intro post n s hI hF
      have e1 : (3 : Int32) * nI d + 1 = nI (3 * d + 1) := by rw [bs_ml 3 d, nI_1]
      have e2 : (3 : Int32) * nI d + 2 = nI (3 * d + 2) := by rw [bs_ml 3 d, show (2 : Int32) = nI 2 from rfl, nI_add]
      refine br_t (nI_le (Nat.le_refl _) (by omega)) ⟨pk_in d 8 (by omega), pk_in (d + 1) 8 (by omega), nm_r (e' := upd y_many (d + 1) (nI mnN)) (by rw [bs_clk (n := d) (by omega), bs_clk (n := d + 1) (by omega), eN, bs_vb (by omega)]) ⟨pk_in d 8 (by omega), pk_in (d + 1) 8 (by omega), nm_r (e' := upd y_broken (d + 1) (y_broken d)) (by rw [bs_clk (n := d) (by omega), bs_clk (n := d + 1) (by omega), bs_z eB]) ⟨pk_in (3 * d) 27 (by omega) (bs_ml 3 d), pk_in (3 * d + 1) 27 (by omega) e1, pk_in (3 * d + 2) 27 (by omega) e2, ?_⟩⟩⟩
      rw [e1, e2, bs_ml 3 d, bs_clk (n := 3 * d) (by omega), bs_clk (n := 3 * d + 1) (by omega), bs_clk (n := 3 * d + 2) (by omega)]
      refine my_bring (lv := d + 1) (by omega) ?_
      exact my_begin (x := x) (by omega) (by omega) hx hoc (by rw [hI.1 (pl + 1) (by omega) hpl, ex]) hF)
    (by
      intro i s hi hI
      refine ⟨upd s (24 * (d + 1) + i) (vp_nar .byte (y_chosen (24 * d + i))), ⟨fun j hj hjm => ?_, fun j hj => ?_⟩, fun post n k => ?_⟩
      · by_cases ej : j = i
        · rw [ej] at hjm ⊢
          obtain ⟨y, hy, ey⟩ := eC i hjm
          rw [pk_us, ey, bs_vb (by omega)]
        · rw [pk_un (by omega)]; exact hI.1 j (by omega) hjm
      · rw [pk_un (by omega)]; exact hI.2 j hj
      · exact br_f (nI_ge (b := 24) hi (by omega)) ⟨pk_in (24 * d + i) 192 (by omega) (bs_ix 24 d i), pk_in (24 * (d + 1) + i) 192 (by omega) (bs_ix 24 (d + 1) i), nm_r (e' := upd s (24 * (d + 1) + i) (vp_nar .byte (y_chosen (24 * d + i)))) (by rw [bs_ix 24 d i, bs_ix 24 (d + 1) i, bs_clk (n := 24 * d + i) (by omega), bs_clk (n := 24 * (d + 1) + i) (by omega), hI.2 _ (by omega)]) (nm_r (nI_1 i) k)⟩)
    24 0 y_chosen (by omega) ⟨lt_0, fun _ _ => rfl⟩
  refine ⟨ch, ⟨fun j hj => hS.1 j (by omega) hj, hS.2⟩, fun post hp => ?_⟩
  unfold wpY_next
  refine nm_r (nI_pred d) ⟨pk_in d 8 (by omega), nm_r (e' := nI (pl + 1)) (by rw [bs_clk (by omega), eR, nI_1]) ⟨pk_in d 8 (by omega), ?_⟩⟩
  rw [bs_clk (n := d) (by omega), eN]
  exact pk_lt (pl + 1) mnN (fun h => pk_eq (d + 1) 8 (fun e => by omega) (fun e => ⟨25, hk post hp⟩)) (fun h => by omega)
theorem my_next_f {post : SY → Prop} {d pl mnN oc : Nat} (hd : d < 8) (hpl : pl < 24) (hmn : mnN ≤ 24) (eR : y_reached d = nI pl) (eN : y_many d = nI mnN) (h3 : mnN ≤ pl + 1 → y_broken d = 0 → post (y_classes, y_supers, y_objects, y_specials, nI (d + 1), nI oc, y_held, 3, y_steps, y_shownSteps, y_result, y_line, y_lineLength, y_has, y_sealed, y_initial, y_drafted, y_draftHas, y_draftInitial, y_lists, y_listLength, y_gone, y_classOfObject, y_slots, y_parameters, y_generic, y_single, y_special, y_kind, y_tokens, y_with, y_methodAt, y_pc, y_chosen, y_many, y_reached, y_opsAt, y_broken, y_arguments, y_operands, y_operator, y_got)) (h2 : mnN ≤ pl + 1 → ¬ y_broken d = 0 → post (y_classes, y_supers, y_objects, y_specials, nI (d + 1), nI oc, y_held, 2, y_steps, y_shownSteps, y_result, y_line, y_lineLength, y_has, y_sealed, y_initial, y_drafted, y_draftHas, y_draftInitial, y_lists, y_listLength, y_gone, y_classOfObject, y_slots, y_parameters, y_generic, y_single, y_special, y_kind, y_tokens, y_with, y_methodAt, y_pc, y_chosen, y_many, y_reached, y_opsAt, y_broken, y_arguments, y_operands, y_operator, y_got)) (h6 : pl + 1 < mnN → d = 7 → post (y_classes, y_supers, y_objects, y_specials, nI (d + 1), nI oc, y_held, 6, y_steps, y_shownSteps, y_result, y_line, y_lineLength, y_has, y_sealed, y_initial, y_drafted, y_draftHas, y_draftInitial, y_lists, y_listLength, y_gone, y_classOfObject, y_slots, y_parameters, y_generic, y_single, y_special, y_kind, y_tokens, y_with, y_methodAt, y_pc, y_chosen, y_many, y_reached, y_opsAt, y_broken, y_arguments, y_operands, y_operator, y_got)) (hn : mnN ≤ pl + 1 ∨ d = 7) : wpY_next post (y_classes, y_supers, y_objects, y_specials, nI (d + 1), nI oc, y_held, y_fault, y_steps, y_shownSteps, y_result, y_line, y_lineLength, y_has, y_sealed, y_initial, y_drafted, y_draftHas, y_draftInitial, y_lists, y_listLength, y_gone, y_classOfObject, y_slots, y_parameters, y_generic, y_single, y_special, y_kind, y_tokens, y_with, y_methodAt, y_pc, y_chosen, y_many, y_reached, y_opsAt, y_broken, y_arguments, y_operands, y_operator, y_got) := by
  unfold wpY_next
  refine nm_r (nI_pred d) ⟨pk_in d 8 hd, nm_r (e' := nI (pl + 1)) (by rw [bs_clk (by omega), eR, nI_1]) ⟨pk_in d 8 hd, ?_⟩⟩
  rw [bs_clk (n := d) (by omega), eN]
  exact pk_lt (pl + 1) mnN (fun h => pk_eq (d + 1) 8 (fun e => h6 h (by omega)) (fun e => by omega)) (fun h => ⟨pk_in d 8 hd, br_c (fun z => h3 h z) (fun z => h2 h z)⟩)
end
