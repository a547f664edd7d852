/-! further moves: an item takes a value, an item goes, frames come and go, objects come -/
section
variable {x_classCount : Int32} {x_superCount : Int32} {x_objectCount : Int32} {x_draftSpecialCount : Int32} {x_state : Int32} {x_stepCount : Int32} {x_latestValue : Int64} {x_enterGeneric : Int32} {x_enterPlace : Int32} {x_frameCount : Int32} {x_operatorCount : Int32} {x_valueCount : Int32} {x_lineClass : Nat → Int32} {x_lineLength : Nat → Int32} {x_isSealed : Nat → Int32} {x_classHasSlot : Nat → Int32} {x_classSlot : Nat → Int32} {x_superDraft : Nat → Int32} {x_objectClass : Nat → Int32} {x_objectHasSlot : Nat → Int32} {x_objectSlot : Nat → Int64} {x_parameterCount : Nat → Int32} {x_methodGeneric : Nat → Int32} {x_specialiser : Nat → Int64} {x_tokenKind : Nat → Int32} {x_tokenValue : Nat → Int32} {x_tokenCount : Nat → Int32} {x_argument : Nat → Int64} {x_rank : Nat → Int32} {x_orderPlace : Nat → Int32} {x_frameMethod : Nat → Int32} {x_framePlace : Nat → Int32} {x_frameToken : Nat → Int32} {x_frameOperators : Nat → Int32} {x_frameArgument : Nat → Int64} {x_operatorKind : Nat → Int32} {x_operatorValue : Nat → Int32} {x_operatorLeft : Nat → Int32} {x_workedOut : Nat → Int64} {y_classes : Int32} {y_supers : Int32} {y_objects : Int32} {y_specials : Int32} {y_depth : Int32} {y_ops : Int32} {y_held : Int32} {y_fault : Int32} {y_steps : Int32} {y_shownSteps : Int32} {y_result : Int64} {y_line : Nat → Int32} {y_lineLength : Nat → Int32} {y_has : Nat → Int32} {y_sealed : Nat → Int32} {y_initial : Nat → Int32} {y_drafted : Nat → Int32} {y_draftHas : Nat → Int32} {y_draftInitial : Nat → Int32} {y_lists : Nat → Int32} {y_listLength : Nat → Int32} {y_gone : Nat → Int32} {y_classOfObject : Nat → Int32} {y_slots : Nat → Int64} {y_parameters : Nat → Int32} {y_generic : Nat → Int32} {y_single : Nat → Int32} {y_special : Nat → Int64} {y_kind : Nat → Int32} {y_tokens : Nat → Int32} {y_with : Nat → Int32} {y_methodAt : Nat → Int32} {y_pc : Nat → Int32} {y_chosen : Nat → Int32} {y_many : Nat → Int32} {y_reached : Nat → Int32} {y_opsAt : Nat → Int32} {y_broken : Nat → Int32} {y_arguments : Nat → Int64} {y_operands : Nat → Int64} {y_operator : Nat → Int32} {y_got : Nat → Int32} {nc : Nat}
theorem cm_kl_1 {A : Nat → Nat} {f : cm_Fr} {K : List cm_Fr} : cm_kl A (f :: K) = cm_kl A K + cm_lf A f.2.2.2.2 := rfl
/-- what holds of the last item -/
theorem cm_top {x s no m pl pc c g n : Nat} {z : Nat → Int64} {ar : Nat → Int64} {r : List cm_It} {K : List cm_Fr} (htok : rl_tok nc x_tokenKind x_tokenValue x_tokenCount) (h : cm_J nc (x) ((m, pl, pc, ar, (c, g, n, z) :: r)) (K) (s) (no) x_lineClass x_lineLength x_methodGeneric x_parameterCount x_specialiser x_tokenKind x_tokenValue x_tokenCount x_objectClass x_objectHasSlot x_objectSlot x_frameMethod x_framePlace x_frameToken x_frameOperators x_frameArgument x_operatorKind x_operatorValue x_operatorLeft x_workedOut y_slots y_methodAt y_reached y_pc y_opsAt y_arguments y_operator y_got y_operands y_many y_broken y_chosen) : ∃ gg p t j, m < 24 ∧ gg < 5 ∧ 1 ≤ p ∧ p ≤ 3 ∧ t ≤ 16 ∧ x_methodGeneric m = nI gg ∧ x_parameterCount gg = nI p ∧ x_tokenCount m = nI t ∧ pc ≤ t ∧ j < t ∧ c = 16 * m + j ∧ (∀ i, i < t → rl_tk nc (x_tokenKind (16 * m + i)) (x_tokenValue (16 * m + i))) ∧ g < (cm_A x_parameterCount x_tokenKind x_tokenValue) c ∧ (x_tokenKind c = 9 → n = 0 ∧ g ≤ 1) ∧ (¬ x_tokenKind c = 9 → n = g) ∧ (∀ q, q < n → rl_val no (z q)) ∧ rl_pn (rl_am x_parameterCount x_tokenKind x_tokenValue m) (t - pc) pc (cm_nd (cm_A x_parameterCount x_tokenKind x_tokenValue) r + ((cm_A x_parameterCount x_tokenKind x_tokenValue) c - g - 1) + x) ∧ (∀ q, q < p → rl_val no (ar q)) := by
  obtain ⟨_, _, _, _, ⟨g', p', t', b1, b2, b3, b4, b5, b6, b7, b8, b9, b10, b11, b12, b13⟩, _⟩ := h
  obtain ⟨jj, i1, i2, i3, i4, i5, i6⟩ := b11 _ List.mem_cons_self
  obtain ⟨t2, ht2, et2, htk⟩ := htok m (by have : m < 24 := b1; omega)
  have b8' : x_tokenCount m = nI t' := b8
  rw [b8'] at et2
  have e2 := bs_inj (by omega) (by omega) et2
  subst e2
  exact ⟨g', p', t', jj, b1, b2, b3, b4, b5, b6, b7, b8, b9, i1, i2, htk, i3, i4, i5, i6, b10, b12⟩
theorem cm_mv_more {s no m pl pc c g n : Nat} {z : Nat → Int64} {v : Int64} {ar : Nat → Int64} {r : List cm_It} {K : List cm_Fr} {od' : Nat → Int64} (h : cm_J nc (0) ((m, pl, pc, ar, (c, g, n, z) :: r)) (K) (s) (no) x_lineClass x_lineLength x_methodGeneric x_parameterCount x_specialiser x_tokenKind x_tokenValue x_tokenCount x_objectClass x_objectHasSlot x_objectSlot x_frameMethod x_framePlace x_frameToken x_frameOperators x_frameArgument x_operatorKind x_operatorValue x_operatorLeft x_workedOut y_slots y_methodAt y_reached y_pc y_opsAt y_arguments y_operator y_got y_operands y_many y_broken y_chosen) (h9 : ¬ x_tokenKind c = 9) (h10 : ¬ x_tokenKind c = 10) (hg : g + 1 < (cm_A x_parameterCount x_tokenKind x_tokenValue) c) (hv : rl_val no v) (hwo : x_workedOut (cm_kv (cm_vx x_tokenKind) ((m, pl, pc, ar, (c, g, n, z) :: r) :: K)) = v) (hod : od' (cm_kv cm_al ((m, pl, pc, ar, (c, g, n, z) :: r) :: K)) = v) (hod2 : ∀ j, j < cm_kv cm_al ((m, pl, pc, ar, (c, g, n, z) :: r) :: K) → od' j = y_operands j) : cm_J nc (1) ((m, pl, pc, ar, (c, g + 1, n + 1, fun q => if q = n then v else z q) :: r)) (K) (s) (no) x_lineClass x_lineLength x_methodGeneric x_parameterCount x_specialiser x_tokenKind x_tokenValue x_tokenCount x_objectClass x_objectHasSlot x_objectSlot x_frameMethod x_framePlace x_frameToken x_frameOperators x_frameArgument x_operatorKind x_operatorValue (upd x_operatorLeft (cm_ko (cm_vx x_tokenKind) K + cm_ni (cm_vx x_tokenKind) r) (nI ((cm_A x_parameterCount x_tokenKind x_tokenValue) c - (g + 1)))) x_workedOut y_slots y_methodAt y_reached y_pc y_opsAt y_arguments y_operator (upd y_got (cm_ko cm_al K + cm_ni cm_al r) (nI (g + 1))) od' y_many y_broken y_chosen := by
  obtain ⟨h1, h2, h3, h4, hf, h6, h7, h8, hly⟩ := h
  obtain ⟨g', p', t', b1, b2, b3, b4, b5, b6, b7, b8, b9, b10, b11, b12, b13⟩ := hf
  obtain ⟨⟨x1, x2, x3, x4, x5, ⟨x6, x6'⟩⟩, x7⟩ := h7
  obtain ⟨⟨y1, y2, y3, y4, y5, ⟨y6, y6'⟩⟩, y7⟩ := h8
  obtain ⟨jj, i1, i2, i3, i4, i5, i6⟩ := b11 _ List.mem_cons_self
  have hvis : ∀ i : cm_It, i.1 = c → (cm_vx x_tokenKind) i = true := fun i e => cm_vx_t (fun zz => h10 (by rw [← e]; exact zz.1))
  have hv0 := hvis (c, g, n, z) rfl
  have hv1 := hvis (c, g + 1, n + 1, fun q => if q = n then v else z q) rfl
  have eng : n = g := i5 h9
  have hkvx : cm_kv (cm_vx x_tokenKind) ((m, pl, pc, ar, (c, g, n, z) :: r) :: K) = cm_kv (cm_vx x_tokenKind) K + (cm_nv (cm_vx x_tokenKind) r + n) := by
    show cm_kv (cm_vx x_tokenKind) K + cm_nv (cm_vx x_tokenKind) ((c, g, n, z) :: r) = _
    rw [cm_nv_t hv0]
  have hkvy : cm_kv cm_al ((m, pl, pc, ar, (c, g, n, z) :: r) :: K) = cm_kv cm_al K + (cm_nv cm_al r + n) := rfl
  rw [hkvx] at hwo
  rw [hkvy] at hod hod2
  have k1 : cm_ko cm_al ((m, pl, pc, ar, (c, g, n, z) :: r) :: K) = cm_ko cm_al K + (cm_ni cm_al r + 1) := rfl
  obtain ⟨xa, xb, xc, xd⟩ := x6 hv0
  obtain ⟨ya, yb, yc, yd⟩ := y6 rfl
  dsimp only at xa xb xc xd ya yb yc yd
  refine ⟨h1, h2, ?_, h4, ⟨g', p', t', b1, b2, b3, b4, b5, b6, b7, b8, b9, ?_, fun i hi => ?_, b12, b13⟩, h6, ⟨⟨x1, x2, x3, x4, x5, ⟨fun _ => ⟨xa, xb, pk_us, fun q hq => ?_⟩, cm_li_c _ (fun j hj => ⟨rfl, rfl, pk_un (by omega)⟩) (fun _ _ => rfl) x6'⟩⟩, cm_lk_c (cm_np3 _ _) K (fun j hj => ⟨rfl, rfl, rfl, rfl⟩) (fun _ _ => rfl) (fun j hj => ⟨rfl, rfl, pk_un (by omega)⟩) (fun _ _ => rfl) x7⟩, ⟨⟨y1, y2, y3, y4, y5, ⟨fun _ => ⟨ya, pk_us, pk_us, fun q hq => ?_⟩, cm_li_c _ (fun j hj => ⟨rfl, pk_un (by omega), pk_un (by omega)⟩) (fun j hj => hod2 j (by omega)) y6'⟩⟩, cm_lk_c (cm_np3 _ _) K (fun j hj => ⟨rfl, rfl, rfl, rfl⟩) (fun _ _ => rfl) (fun j hj => ⟨rfl, pk_un (by omega), pk_un (by omega)⟩) (fun j hj => hod2 j (by omega)) y7⟩, hly⟩
  · have c1 : cm_ko cm_al ((m, pl, pc, ar, (c, g + 1, n + 1, fun q => if q = n then v else z q) :: r) :: K) = cm_ko cm_al K + (cm_ni cm_al r + 1) := rfl
    have c2 : cm_kv cm_al ((m, pl, pc, ar, (c, g + 1, n + 1, fun q => if q = n then v else z q) :: r) :: K) = cm_kv cm_al K + (cm_nv cm_al r + (n + 1)) := rfl
    omega
  · have e1 : cm_nd (cm_A x_parameterCount x_tokenKind x_tokenValue) ((c, g + 1, n + 1, fun q => if q = n then v else z q) :: r) = cm_nd (cm_A x_parameterCount x_tokenKind x_tokenValue) r + ((cm_A x_parameterCount x_tokenKind x_tokenValue) c - (g + 1) - 1) := rfl
    have e2 : cm_nd (cm_A x_parameterCount x_tokenKind x_tokenValue) ((c, g, n, z) :: r) = cm_nd (cm_A x_parameterCount x_tokenKind x_tokenValue) r + ((cm_A x_parameterCount x_tokenKind x_tokenValue) c - g - 1) := rfl
    dsimp only at b10 ⊢
    rw [e2] at b10
    rw [e1, show cm_nd (cm_A x_parameterCount x_tokenKind x_tokenValue) r + ((cm_A x_parameterCount x_tokenKind x_tokenValue) c - (g + 1) - 1) + 1 = cm_nd (cm_A x_parameterCount x_tokenKind x_tokenValue) r + ((cm_A x_parameterCount x_tokenKind x_tokenValue) c - g - 1) + 0 by omega]
    exact b10
  · rcases List.mem_cons.mp hi with e | e
    · rw [e]
      refine ⟨jj, i1, i2, hg, fun zz => absurd zz h9, fun _ => by show n + 1 = g + 1; omega, fun q hq => ?_⟩
      show rl_val no (if q = n then v else z q)
      by_cases eq : q = n
      · rw [if_pos eq]; exact hv
      · rw [if_neg eq]
        have hq' : q < n + 1 := hq
        exact i6 q (by show q < n; omega)
    · exact b11 i (List.mem_cons_of_mem _ e)
  · show x_workedOut (cm_kv (cm_vx x_tokenKind) K + cm_nv (cm_vx x_tokenKind) r + q) = if q = n then v else z q
    have hq' : q < n + 1 := hq
    by_cases eq : q = n
    · rw [if_pos eq, eq, Nat.add_assoc]; exact hwo
    · rw [if_neg eq]; exact xd q (by omega)
  · show od' (cm_kv cm_al K + cm_nv cm_al r + q) = if q = n then v else z q
    have hq' : q < n + 1 := hq
    by_cases eq : q = n
    · rw [if_pos eq, eq, Nat.add_assoc]; exact hod
    · rw [if_neg eq, hod2 _ (by omega)]; exact yd q (by omega)
theorem cm_mv_seq {s no m pl pc c : Nat} {z : Nat → Int64} {v : Int64} {ar : Nat → Int64} {r : List cm_It} {K : List cm_Fr} {od' : Nat → Int64} {oL' : Nat → Int32} (h : cm_J nc (0) ((m, pl, pc, ar, (c, 0, 0, z) :: r)) (K) (s) (no) x_lineClass x_lineLength x_methodGeneric x_parameterCount x_specialiser x_tokenKind x_tokenValue x_tokenCount x_objectClass x_objectHasSlot x_objectSlot x_frameMethod x_framePlace x_frameToken x_frameOperators x_frameArgument x_operatorKind x_operatorValue x_operatorLeft x_workedOut y_slots y_methodAt y_reached y_pc y_opsAt y_arguments y_operator y_got y_operands y_many y_broken y_chosen) (h10 : x_tokenKind c = 10) (hA : (cm_A x_parameterCount x_tokenKind x_tokenValue) c = 2) (hv : rl_val no v) (hod : od' (cm_kv cm_al ((m, pl, pc, ar, (c, 0, 0, z) :: r) :: K)) = v) (hod2 : ∀ j, j < cm_kv cm_al ((m, pl, pc, ar, (c, 0, 0, z) :: r) :: K) → od' j = y_operands j) (hoL : ∀ j, j < cm_ko (cm_vx x_tokenKind) K + cm_ni (cm_vx x_tokenKind) r → oL' j = x_operatorLeft j) : cm_J nc (1) ((m, pl, pc, ar, (c, 1, 1, fun _ => v) :: r)) (K) (s) (no) x_lineClass x_lineLength x_methodGeneric x_parameterCount x_specialiser x_tokenKind x_tokenValue x_tokenCount x_objectClass x_objectHasSlot x_objectSlot x_frameMethod x_framePlace x_frameToken x_frameOperators x_frameArgument x_operatorKind x_operatorValue oL' x_workedOut y_slots y_methodAt y_reached y_pc y_opsAt y_arguments y_operator (upd y_got (cm_ko cm_al K + cm_ni cm_al r) (nI 1)) od' y_many y_broken y_chosen := by
  obtain ⟨h1, h2, h3, h4, hf, h6, h7, h8, hly⟩ := h
  obtain ⟨g', p', t', b1, b2, b3, b4, b5, b6, b7, b8, b9, b10, b11, b12, b13⟩ := hf
  obtain ⟨⟨x1, x2, x3, x4, x5, ⟨x6, x6'⟩⟩, x7⟩ := h7
  obtain ⟨⟨y1, y2, y3, y4, y5, ⟨y6, y6'⟩⟩, y7⟩ := h8
  obtain ⟨jj, i1, i2, i3, i4, i5, i6⟩ := b11 _ List.mem_cons_self
  have hv1 : ¬ (cm_vx x_tokenKind) (c, 1, 1, fun _ => v) = true := cm_vx_f ⟨h10, rfl⟩
  have hkvy : cm_kv cm_al ((m, pl, pc, ar, (c, 0, 0, z) :: r) :: K) = cm_kv cm_al K + (cm_nv cm_al r + 0) := rfl
  rw [hkvy] at hod hod2
  have k1 : cm_ko cm_al ((m, pl, pc, ar, (c, 0, 0, z) :: r) :: K) = cm_ko cm_al K + (cm_ni cm_al r + 1) := rfl
  obtain ⟨ya, yb, yc, yd⟩ := y6 rfl
  dsimp only at ya yb yc yd
  refine ⟨h1, h2, ?_, h4, ⟨g', p', t', b1, b2, b3, b4, b5, b6, b7, b8, b9, ?_, fun i hi => ?_, b12, b13⟩, h6, ⟨⟨x1, x2, x3, x4, x5, ⟨fun zz => absurd zz hv1, cm_li_c _ (fun j hj => ⟨rfl, rfl, hoL j hj⟩) (fun _ _ => rfl) x6'⟩⟩, cm_lk_c (cm_np3 _ _) K (fun j hj => ⟨rfl, rfl, rfl, rfl⟩) (fun _ _ => rfl) (fun j hj => ⟨rfl, rfl, hoL j (by omega)⟩) (fun _ _ => rfl) x7⟩, ⟨⟨y1, y2, y3, y4, y5, ⟨fun _ => ⟨ya, pk_us, pk_us, fun q hq => ?_⟩, cm_li_c _ (fun j hj => ⟨rfl, pk_un (by omega), pk_un (by omega)⟩) (fun j hj => hod2 j (by omega)) y6'⟩⟩, cm_lk_c (cm_np3 _ _) K (fun j hj => ⟨rfl, rfl, rfl, rfl⟩) (fun _ _ => rfl) (fun j hj => ⟨rfl, pk_un (by omega), pk_un (by omega)⟩) (fun j hj => hod2 j (by omega)) y7⟩, hly⟩
  · have c1 : cm_ko cm_al ((m, pl, pc, ar, (c, 1, 1, fun _ => v) :: r) :: K) = cm_ko cm_al K + (cm_ni cm_al r + 1) := rfl
    have c2 : cm_kv cm_al ((m, pl, pc, ar, (c, 1, 1, fun _ => v) :: r) :: K) = cm_kv cm_al K + (cm_nv cm_al r + 1) := rfl
    omega
  · have e1 : cm_nd (cm_A x_parameterCount x_tokenKind x_tokenValue) ((c, 1, 1, fun _ => v) :: r) = cm_nd (cm_A x_parameterCount x_tokenKind x_tokenValue) r + ((cm_A x_parameterCount x_tokenKind x_tokenValue) c - 1 - 1) := rfl
    have e2 : cm_nd (cm_A x_parameterCount x_tokenKind x_tokenValue) ((c, 0, 0, z) :: r) = cm_nd (cm_A x_parameterCount x_tokenKind x_tokenValue) r + ((cm_A x_parameterCount x_tokenKind x_tokenValue) c - 0 - 1) := rfl
    dsimp only at b10 ⊢
    rw [e2] at b10
    rw [e1, show cm_nd (cm_A x_parameterCount x_tokenKind x_tokenValue) r + ((cm_A x_parameterCount x_tokenKind x_tokenValue) c - 1 - 1) + 1 = cm_nd (cm_A x_parameterCount x_tokenKind x_tokenValue) r + ((cm_A x_parameterCount x_tokenKind x_tokenValue) c - 0 - 1) + 0 by omega]
    exact b10
  · rcases List.mem_cons.mp hi with e | e
    · rw [e]
      refine ⟨jj, i1, i2, by show 1 < (cm_A x_parameterCount x_tokenKind x_tokenValue) c; omega, fun zz => ?_, fun _ => rfl, fun q hq => hv⟩
      have zz' : x_tokenKind c = 9 := zz
      rw [h10] at zz'
      exact absurd zz' (by decide)
    · exact b11 i (List.mem_cons_of_mem _ e)
  · show od' (cm_kv cm_al K + cm_nv cm_al r + q) = v
    have hq' : q < 1 := hq
    have eq : q = 0 := by omega
    rw [eq]; exact hod
theorem cm_mv_if {s no m pl pc c : Nat} {z : Nat → Int64} {ar : Nat → Int64} {r : List cm_It} {K : List cm_Fr} {od' : Nat → Int64} (h : cm_J nc (0) ((m, pl, pc, ar, (c, 0, 0, z) :: r)) (K) (s) (no) x_lineClass x_lineLength x_methodGeneric x_parameterCount x_specialiser x_tokenKind x_tokenValue x_tokenCount x_objectClass x_objectHasSlot x_objectSlot x_frameMethod x_framePlace x_frameToken x_frameOperators x_frameArgument x_operatorKind x_operatorValue x_operatorLeft x_workedOut y_slots y_methodAt y_reached y_pc y_opsAt y_arguments y_operator y_got y_operands y_many y_broken y_chosen) (h9 : x_tokenKind c = 9) (hA : (cm_A x_parameterCount x_tokenKind x_tokenValue) c = 3) (hod2 : ∀ j, j < cm_kv cm_al K + cm_nv cm_al r → od' j = y_operands j) : cm_J nc (1) ((m, pl, pc, ar, (c, 1, 0, z) :: r)) (K) (s) (no) x_lineClass x_lineLength x_methodGeneric x_parameterCount x_specialiser x_tokenKind x_tokenValue x_tokenCount x_objectClass x_objectHasSlot x_objectSlot x_frameMethod x_framePlace x_frameToken x_frameOperators x_frameArgument x_operatorKind x_operatorValue (upd x_operatorLeft (cm_ko (cm_vx x_tokenKind) K + cm_ni (cm_vx x_tokenKind) r) (nI 2)) x_workedOut y_slots y_methodAt y_reached y_pc y_opsAt y_arguments y_operator (upd y_got (cm_ko cm_al K + cm_ni cm_al r) (nI 1)) od' y_many y_broken y_chosen := by
  obtain ⟨h1, h2, h3, h4, hf, h6, h7, h8, hly⟩ := h
  obtain ⟨g', p', t', b1, b2, b3, b4, b5, b6, b7, b8, b9, b10, b11, b12, b13⟩ := hf
  obtain ⟨⟨x1, x2, x3, x4, x5, ⟨x6, x6'⟩⟩, x7⟩ := h7
  obtain ⟨⟨y1, y2, y3, y4, y5, ⟨y6, y6'⟩⟩, y7⟩ := h8
  obtain ⟨jj, i1, i2, i3, i4, i5, i6⟩ := b11 _ List.mem_cons_self
  have hvis : ∀ i : cm_It, i.1 = c → (cm_vx x_tokenKind) i = true := fun i e => cm_vx_t (fun zz => by have z1 := zz.1; rw [e, h9] at z1; exact absurd z1 (by decide))
  have hv0 := hvis (c, 0, 0, z) rfl
  have k1 : cm_ko cm_al ((m, pl, pc, ar, (c, 0, 0, z) :: r) :: K) = cm_ko cm_al K + (cm_ni cm_al r + 1) := rfl
  have k2 : cm_kv cm_al ((m, pl, pc, ar, (c, 0, 0, z) :: r) :: K) = cm_kv cm_al K + (cm_nv cm_al r + 0) := rfl
  obtain ⟨xa, xb, xc, xd⟩ := x6 hv0
  obtain ⟨ya, yb, yc, yd⟩ := y6 rfl
  dsimp only at xa xb xc xd ya yb yc yd
  refine ⟨h1, h2, ?_, h4, ⟨g', p', t', b1, b2, b3, b4, b5, b6, b7, b8, b9, ?_, fun i hi => ?_, b12, b13⟩, h6, ⟨⟨x1, x2, x3, x4, x5, ⟨fun _ => ⟨xa, xb, ?_, fun q hq => absurd hq (Nat.not_lt_zero q)⟩, cm_li_c _ (fun j hj => ⟨rfl, rfl, pk_un (by omega)⟩) (fun _ _ => rfl) x6'⟩⟩, cm_lk_c (cm_np3 _ _) K (fun j hj => ⟨rfl, rfl, rfl, rfl⟩) (fun _ _ => rfl) (fun j hj => ⟨rfl, rfl, pk_un (by omega)⟩) (fun _ _ => rfl) x7⟩, ⟨⟨y1, y2, y3, y4, y5, ⟨fun _ => ⟨ya, pk_us, pk_us, fun q hq => absurd hq (Nat.not_lt_zero q)⟩, cm_li_c _ (fun j hj => ⟨rfl, pk_un (by omega), pk_un (by omega)⟩) (fun j hj => hod2 j (by omega)) y6'⟩⟩, cm_lk_c (cm_np3 _ _) K (fun j hj => ⟨rfl, rfl, rfl, rfl⟩) (fun _ _ => rfl) (fun j hj => ⟨rfl, pk_un (by omega), pk_un (by omega)⟩) (fun j hj => hod2 j (by omega)) y7⟩, hly⟩
  · have c1 : cm_ko cm_al ((m, pl, pc, ar, (c, 1, 0, z) :: r) :: K) = cm_ko cm_al K + (cm_ni cm_al r + 1) := rfl
    have c2 : cm_kv cm_al ((m, pl, pc, ar, (c, 1, 0, z) :: r) :: K) = cm_kv cm_al K + (cm_nv cm_al r + 0) := rfl
    omega
  · have e1 : cm_nd (cm_A x_parameterCount x_tokenKind x_tokenValue) ((c, 1, 0, z) :: r) = cm_nd (cm_A x_parameterCount x_tokenKind x_tokenValue) r + ((cm_A x_parameterCount x_tokenKind x_tokenValue) c - 1 - 1) := rfl
    have e2 : cm_nd (cm_A x_parameterCount x_tokenKind x_tokenValue) ((c, 0, 0, z) :: r) = cm_nd (cm_A x_parameterCount x_tokenKind x_tokenValue) r + ((cm_A x_parameterCount x_tokenKind x_tokenValue) c - 0 - 1) := rfl
    dsimp only at b10 ⊢
    rw [e2] at b10
    rw [e1, show cm_nd (cm_A x_parameterCount x_tokenKind x_tokenValue) r + ((cm_A x_parameterCount x_tokenKind x_tokenValue) c - 1 - 1) + 1 = cm_nd (cm_A x_parameterCount x_tokenKind x_tokenValue) r + ((cm_A x_parameterCount x_tokenKind x_tokenValue) c - 0 - 1) + 0 by omega]
    exact b10
  · rcases List.mem_cons.mp hi with e | e
    · rw [e]
      exact ⟨jj, i1, i2, by show 1 < (cm_A x_parameterCount x_tokenKind x_tokenValue) c; omega, fun _ => ⟨rfl, Nat.le_refl 1⟩, fun zz => absurd h9 zz, fun q hq => absurd hq (Nat.not_lt_zero q)⟩
    · exact b11 i (List.mem_cons_of_mem _ e)
  · show upd x_operatorLeft _ (nI 2) _ = nI ((cm_A x_parameterCount x_tokenKind x_tokenValue) c - 1)
    rw [pk_us, hA]
theorem cm_mv_pop {x s no m pl pc pc' c g n t : Nat} {z : Nat → Int64} {ar : Nat → Int64} {r : List cm_It} {K : List cm_Fr} {od' wo' : Nat → Int64} {oL' go' fT' pC' : Nat → Int32} (h : cm_J nc (0) ((m, pl, pc, ar, (c, g, n, z) :: r)) (K) (s) (no) x_lineClass x_lineLength x_methodGeneric x_parameterCount x_specialiser x_tokenKind x_tokenValue x_tokenCount x_objectClass x_objectHasSlot x_objectSlot x_frameMethod x_framePlace x_frameToken x_frameOperators x_frameArgument x_operatorKind x_operatorValue x_operatorLeft x_workedOut y_slots y_methodAt y_reached y_pc y_opsAt y_arguments y_operator y_got y_operands y_many y_broken y_chosen) (hx : x ≤ 1) (et : x_tokenCount m = nI t) (ht : t ≤ 16) (hpc : pc' ≤ t) (hpn : rl_pn (rl_am x_parameterCount x_tokenKind x_tokenValue m) (t - pc') pc' (cm_nd (cm_A x_parameterCount x_tokenKind x_tokenValue) r + x)) (hfT : fT' K.length = nI pc') (hpC : pC' K.length = nI pc') (hfT2 : ∀ j, j < K.length → fT' j = x_frameToken j) (hpC2 : ∀ j, j < K.length → pC' j = y_pc j) (hod2 : ∀ j, j < cm_kv cm_al K + cm_nv cm_al r → od' j = y_operands j) (hwo2 : ∀ j, j < cm_kv (cm_vx x_tokenKind) K + cm_nv (cm_vx x_tokenKind) r → wo' j = x_workedOut j) (hoL : ∀ j, j < cm_ko (cm_vx x_tokenKind) K + cm_ni (cm_vx x_tokenKind) r → oL' j = x_operatorLeft j) (hgo : ∀ j, j < cm_ko cm_al K + cm_ni cm_al r → go' j = y_got j) : cm_J nc (x) ((m, pl, pc', ar, r)) (K) (s) (no) x_lineClass x_lineLength x_methodGeneric x_parameterCount x_specialiser x_tokenKind x_tokenValue x_tokenCount x_objectClass x_objectHasSlot x_objectSlot x_frameMethod x_framePlace fT' x_frameOperators x_frameArgument x_operatorKind x_operatorValue oL' wo' y_slots y_methodAt y_reached pC' y_opsAt y_arguments y_operator go' od' y_many y_broken y_chosen := by
  obtain ⟨h1, h2, h3, h4, hf, h6, h7, h8, h9⟩ := h
  obtain ⟨g', p', t', b1, b2, b3, b4, b5, b6, b7, b8, b9, b10, b11, b12, b13⟩ := hf
  obtain ⟨⟨x1, x2, x3, x4, x5, ⟨x6, x6'⟩⟩, x7⟩ := h7
  obtain ⟨⟨y1, y2, y3, y4, y5, ⟨y6, y6'⟩⟩, y7⟩ := h8
  have k1 : cm_ko cm_al ((m, pl, pc, ar, (c, g, n, z) :: r) :: K) = cm_ko cm_al K + (cm_ni cm_al r + 1) := rfl
  have k2 : cm_kv cm_al ((m, pl, pc, ar, (c, g, n, z) :: r) :: K) = cm_kv cm_al K + (cm_nv cm_al r + n) := rfl
  have b8' : x_tokenCount m = nI t' := b8
  rw [et] at b8'
  have e2 := bs_inj (by omega) (by omega) b8'
  subst e2
  refine ⟨h1, h2, ?_, h4, ⟨g', p', t, b1, b2, b3, b4, b5, b6, b7, et, hpc, hpn, fun i hi => b11 i (List.mem_cons_of_mem _ hi), b12, b13⟩, h6, ⟨⟨x1, x2, hfT, x4, x5, cm_li_c _ (fun j hj => ⟨rfl, rfl, hoL j hj⟩) hwo2 x6'⟩, cm_lk_c (cm_np3 _ _) K (fun j hj => ⟨rfl, rfl, hfT2 j hj, rfl⟩) (fun _ _ => rfl) (fun j hj => ⟨rfl, rfl, hoL j (by omega)⟩) (fun j hj => hwo2 j (by omega)) x7⟩, ⟨⟨y1, y2, hpC, y4, y5, cm_li_c _ (fun j hj => ⟨rfl, hgo j hj, hgo j hj⟩) hod2 y6'⟩, cm_lk_c (cm_np3 _ _) K (fun j hj => ⟨rfl, rfl, hpC2 j hj, rfl⟩) (fun _ _ => rfl) (fun j hj => ⟨rfl, hgo j (by omega), hgo j (by omega)⟩) (fun j hj => hod2 j (by omega)) y7⟩, h9⟩
  have c1 : cm_ko cm_al ((m, pl, pc', ar, r) :: K) = cm_ko cm_al K + cm_ni cm_al r := rfl
  have c2 : cm_kv cm_al ((m, pl, pc', ar, r) :: K) = cm_kv cm_al K + cm_nv cm_al r := rfl
  omega
theorem cm_mv_leave {s no m pl pc : Nat} {ar : Nat → Int64} {f : cm_Fr} {K : List cm_Fr} (h : cm_J nc (0) ((m, pl, pc, ar, [])) (f :: K) (s) (no) x_lineClass x_lineLength x_methodGeneric x_parameterCount x_specialiser x_tokenKind x_tokenValue x_tokenCount x_objectClass x_objectHasSlot x_objectSlot x_frameMethod x_framePlace x_frameToken x_frameOperators x_frameArgument x_operatorKind x_operatorValue x_operatorLeft x_workedOut y_slots y_methodAt y_reached y_pc y_opsAt y_arguments y_operator y_got y_operands y_many y_broken y_chosen) : cm_J nc (0) (f) (K) (s) (no) x_lineClass x_lineLength x_methodGeneric x_parameterCount x_specialiser x_tokenKind x_tokenValue x_tokenCount x_objectClass x_objectHasSlot x_objectSlot x_frameMethod x_framePlace x_frameToken x_frameOperators x_frameArgument x_operatorKind x_operatorValue x_operatorLeft x_workedOut y_slots y_methodAt y_reached y_pc y_opsAt y_arguments y_operator y_got y_operands y_many y_broken y_chosen := by
  obtain ⟨h1, h2, h3, h4, hf, h6, h7, h8, h9⟩ := h
  have k1 : cm_ko cm_al ((m, pl, pc, ar, []) :: f :: K) = cm_ko cm_al (f :: K) + 0 := rfl
  have k2 : cm_kv cm_al ((m, pl, pc, ar, []) :: f :: K) = cm_kv cm_al (f :: K) + 0 := rfl
  have k3 : (f :: K).length = K.length + 1 := rfl
  exact ⟨h1, h2, by omega, by omega, h6 f List.mem_cons_self, fun f' hf' => h6 f' (List.mem_cons_of_mem _ hf'), h7.2, h8.2, h9.2⟩
theorem cm_mv_push {s no m pl g p t : Nat} {ar : Nat → Int64} {K : List cm_Fr} {fA' ag' : Nat → Int64} {ch' mn' bk' : Nat → Int32} (h : cm_V nc K s no x_lineClass x_lineLength x_methodGeneric x_parameterCount x_specialiser x_tokenKind x_tokenValue x_tokenCount x_objectClass x_objectHasSlot x_objectSlot x_frameMethod x_framePlace x_frameToken x_frameOperators x_frameArgument x_operatorKind x_operatorValue x_operatorLeft x_workedOut y_slots y_methodAt y_reached y_pc y_opsAt y_arguments y_operator y_got y_operands y_many y_broken y_chosen) (hK : K.length < 8) (hm : m < 24) (hg : g < 5) (hp1 : 1 ≤ p) (hp3 : p ≤ 3) (ht : t ≤ 16) (eg : x_methodGeneric m = nI g) (ep : x_parameterCount g = nI p) (et : x_tokenCount m = nI t) (hpn : rl_pn (rl_am x_parameterCount x_tokenKind x_tokenValue m) t 0 1) (hv : ∀ q, q < p → rl_val no (ar q)) (hpl : pl < or_mn (or_R x_lineClass x_lineLength x_objectClass x_specialiser ar p) p (or_L x_methodGeneric (or_R x_lineClass x_lineLength x_objectClass x_specialiser ar p) g p)) (hfA : ∀ q, q < p → fA' (3 * K.length + q) = ar q) (hfA2 : ∀ j, j < 3 * K.length → fA' j = x_frameArgument j) (hag : ∀ q, q < p → ag' (3 * K.length + q) = ar q) (hag2 : ∀ j, j < 3 * K.length → ag' j = y_arguments j)
    (hmn : mn' K.length = nI (or_mn (or_R x_lineClass x_lineLength x_objectClass x_specialiser ar p) p (or_L x_methodGeneric (or_R x_lineClass x_lineLength x_objectClass x_specialiser ar p) g p))) (hbk : bk' K.length = bs_ci (or_sq (or_R x_lineClass x_lineLength x_objectClass x_specialiser ar p) p (or_L x_methodGeneric (or_R x_lineClass x_lineLength x_objectClass x_specialiser ar p) g p) (or_mn (or_R x_lineClass x_lineLength x_objectClass x_specialiser ar p) p (or_L x_methodGeneric (or_R x_lineClass x_lineLength x_objectClass x_specialiser ar p) g p)) = 0) 0 1) (hch : ∀ j, j < or_mn (or_R x_lineClass x_lineLength x_objectClass x_specialiser ar p) p (or_L x_methodGeneric (or_R x_lineClass x_lineLength x_objectClass x_specialiser ar p) g p) → ch' (24 * K.length + j) = nI (or_ld (or_R x_lineClass x_lineLength x_objectClass x_specialiser ar p) p (or_sq (or_R x_lineClass x_lineLength x_objectClass x_specialiser ar p) p (or_L x_methodGeneric (or_R x_lineClass x_lineLength x_objectClass x_specialiser ar p) g p) j)))
    (hmn2 : ∀ j, j < K.length → mn' j = y_many j ∧ bk' j = y_broken j) (hch2 : ∀ j, j < 24 * K.length → ch' j = y_chosen j) : cm_J nc (1) ((m, pl, 0, ar, [])) (K) (s) (no) x_lineClass x_lineLength x_methodGeneric x_parameterCount x_specialiser x_tokenKind x_tokenValue x_tokenCount x_objectClass x_objectHasSlot x_objectSlot (upd x_frameMethod K.length (nI m)) (upd x_framePlace K.length (nI pl)) (upd x_frameToken K.length 0) (upd x_frameOperators K.length (nI (cm_ko (cm_vx x_tokenKind) K))) fA' x_operatorKind x_operatorValue x_operatorLeft x_workedOut y_slots (upd y_methodAt K.length (nI m)) (upd y_reached K.length (nI pl)) (upd y_pc K.length 0) (upd y_opsAt K.length (nI (cm_ko cm_al K))) ag' y_operator y_got y_operands mn' bk' ch' := by
  obtain ⟨h1, h2, h3, h4, h6, h7, h8, h9⟩ := h
  have enp := cm_np_e hg hp3 eg ep
  refine ⟨h1, h2, by show cm_ko cm_al K + 0 + (cm_kv cm_al K + 0) + 0 ≤ s; omega, hK, ⟨g, p, t, hm, hg, hp1, hp3, ht, eg, ep, et, Nat.zero_le _, hpn, fun i hi => absurd hi List.not_mem_nil, hv, hpl⟩, h6, ⟨⟨pk_us, pk_us, pk_us, pk_us, fun q hq => ?_, trivial⟩, cm_lk_c (cm_np3 _ _) K (fun j hj => ⟨pk_un (by omega), pk_un (by omega), pk_un (by omega), pk_un (by omega)⟩) hfA2 (fun _ _ => ⟨rfl, rfl, rfl⟩) (fun _ _ => rfl) h7⟩, ⟨⟨pk_us, pk_us, pk_us, pk_us, fun q hq => ?_, trivial⟩, cm_lk_c (cm_np3 _ _) K (fun j hj => ⟨pk_un (by omega), pk_un (by omega), pk_un (by omega), pk_un (by omega)⟩) hag2 (fun _ _ => ⟨rfl, rfl, rfl⟩) (fun _ _ => rfl) h8⟩, ⟨fun g2 p2 hg2 hp2 eg2 ep2 => ?_, cm_ly_c K hmn2 hch2 h9⟩⟩
  · have hq' : q < cm_np x_parameterCount x_methodGeneric m := hq
    rw [enp] at hq'
    exact hfA q hq'
  · have hq' : q < cm_np x_parameterCount x_methodGeneric m := hq
    rw [enp] at hq'
    exact hag q hq'
  · have eg2' : x_methodGeneric m = nI g2 := eg2
    rw [eg] at eg2'
    have e1 := bs_inj (by omega) (by omega) eg2'
    subst e1
    rw [ep] at ep2
    have e2 := bs_inj (by omega) (by omega) ep2
    subst e2
    exact ⟨hmn, hbk, hch⟩
/-- objects come and change -/
theorem cm_mv_obj {x s no no' : Nat} {f : cm_Fr} {K : List cm_Fr} {OC' OH' : Nat → Int32} {OS' SL' : Nat → Int64} (h : cm_J nc (x) (f) (K) (s) (no) x_lineClass x_lineLength x_methodGeneric x_parameterCount x_specialiser x_tokenKind x_tokenValue x_tokenCount x_objectClass x_objectHasSlot x_objectSlot x_frameMethod x_framePlace x_frameToken x_frameOperators x_frameArgument x_operatorKind x_operatorValue x_operatorLeft x_workedOut y_slots y_methodAt y_reached y_pc y_opsAt y_arguments y_operator y_got y_operands y_many y_broken y_chosen) (hn : no ≤ no') (hoc : ∀ k, k < no → OC' k = x_objectClass k) (ho : rl_obj nc no' OC' OH' OS' SL') : cm_J nc (x) (f) (K) (s) (no') x_lineClass x_lineLength x_methodGeneric x_parameterCount x_specialiser x_tokenKind x_tokenValue x_tokenCount OC' OH' OS' x_frameMethod x_framePlace x_frameToken x_frameOperators x_frameArgument x_operatorKind x_operatorValue x_operatorLeft x_workedOut SL' y_methodAt y_reached y_pc y_opsAt y_arguments y_operator y_got y_operands y_many y_broken y_chosen := by
  obtain ⟨h1, h2, h3, h4, hf, h6, h7, h8, h9⟩ := h
  refine ⟨ho, h2, h3, h4, cm_fo_m hn h1.1 hoc hf, fun f' hf' => cm_fo_m hn h1.1 hoc (h6 f' hf'), h7, h8, cm_ly_m (TK := x_tokenKind) (TV := x_tokenValue) (TC := x_tokenCount) h1.1 hoc (f :: K) (fun f' hf' => ?_) h9⟩
  rcases List.mem_cons.mp hf' with e | e
  · rw [e]; exact ⟨x, hf⟩
  · exact ⟨0, h6 f' e⟩
end
