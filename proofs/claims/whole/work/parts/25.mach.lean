/-! the machine of call: frames and items as lists, their layout in the arrays of X and of Y
   an item: cell of its token, how many operands it has got, how many of them are kept, these
   a frame: method, place in the order, place of the next token, arguments, items (the last first) -/
abbrev cm_It : Type := Nat × Nat × Nat × (Nat → Int64)
abbrev cm_Fr : Type := Nat × Nat × Nat × (Nat → Int64) × List cm_It
def cm_ni (vis : cm_It → Bool) : List cm_It → Nat
  | [] => 0
  | i :: r => cm_ni vis r + (if vis i = true then 1 else 0)
def cm_nv (vis : cm_It → Bool) : List cm_It → Nat
  | [] => 0
  | i :: r => cm_nv vis r + (if vis i = true then i.2.2.1 else 0)
def cm_ko (vis : cm_It → Bool) : List cm_Fr → Nat
  | [] => 0
  | f :: K => cm_ko vis K + cm_ni vis f.2.2.2.2
def cm_kv (vis : cm_It → Bool) : List cm_Fr → Nat
  | [] => 0
  | f :: K => cm_kv vis K + cm_nv vis f.2.2.2.2
def cm_li (vis : cm_It → Bool) (o1 o2 o3 : Nat → Int32) (e1 e2 e3 : cm_It → Int32) (wo : Nat → Int64) (bo bv : Nat) : List cm_It → Prop
  | [] => True
  | i :: r => (vis i = true → o1 (bo + cm_ni vis r) = e1 i ∧ o2 (bo + cm_ni vis r) = e2 i ∧ o3 (bo + cm_ni vis r) = e3 i ∧ ∀ q, q < i.2.2.1 → wo (bv + cm_nv vis r + q) = i.2.2.2 q) ∧ cm_li vis o1 o2 o3 e1 e2 e3 wo bo bv r
def cm_lk (vis : cm_It → Bool) (o1 o2 o3 : Nat → Int32) (e1 e2 e3 : cm_It → Int32) (wo : Nat → Int64) (fM fP fT fO : Nat → Int32) (fA : Nat → Int64) (np : Nat → Nat) : List cm_Fr → Prop
  | [] => True
  | f :: K => (fM K.length = nI f.1 ∧ fP K.length = nI f.2.1 ∧ fT K.length = nI f.2.2.1 ∧ fO K.length = nI (cm_ko vis K) ∧ (∀ q, q < np f.1 → fA (3 * K.length + q) = f.2.2.2.1 q) ∧ cm_li vis o1 o2 o3 e1 e2 e3 wo (cm_ko vis K) (cm_kv vis K) f.2.2.2.2) ∧ cm_lk vis o1 o2 o3 e1 e2 e3 wo fM fP fT fO fA np K
theorem cm_ni_t {vis : cm_It → Bool} {i : cm_It} {r : List cm_It} (h : vis i = true) : cm_ni vis (i :: r) = cm_ni vis r + 1 := by
  show cm_ni vis r + (if vis i = true then 1 else 0) = _
  rw [if_pos h]
theorem cm_ni_f {vis : cm_It → Bool} {i : cm_It} {r : List cm_It} (h : ¬ vis i = true) : cm_ni vis (i :: r) = cm_ni vis r := by
  show cm_ni vis r + (if vis i = true then 1 else 0) = _
  rw [if_neg h]; rfl
theorem cm_nv_t {vis : cm_It → Bool} {i : cm_It} {r : List cm_It} (h : vis i = true) : cm_nv vis (i :: r) = cm_nv vis r + i.2.2.1 := by
  show cm_nv vis r + (if vis i = true then i.2.2.1 else 0) = _
  rw [if_pos h]
theorem cm_nv_f {vis : cm_It → Bool} {i : cm_It} {r : List cm_It} (h : ¬ vis i = true) : cm_nv vis (i :: r) = cm_nv vis r := by
  show cm_nv vis r + (if vis i = true then i.2.2.1 else 0) = _
  rw [if_neg h]; rfl
def cm_al (_ : cm_It) : Bool := true
theorem cm_ni_le (vis : cm_It → Bool) : ∀ its, cm_ni vis its ≤ cm_ni cm_al its := by
  intro its
  induction its with
  | nil => exact Nat.le_refl _
  | cons i r ih =>
    rw [cm_ni_t (vis := cm_al) rfl]
    by_cases h : vis i = true
    · rw [cm_ni_t h]; omega
    · rw [cm_ni_f h]; omega
theorem cm_nv_le (vis : cm_It → Bool) : ∀ its, cm_nv vis its ≤ cm_nv cm_al its := by
  intro its
  induction its with
  | nil => exact Nat.le_refl _
  | cons i r ih =>
    rw [cm_nv_t (vis := cm_al) rfl]
    by_cases h : vis i = true
    · rw [cm_nv_t h]; omega
    · rw [cm_nv_f h]; omega
theorem cm_ko_c (vis : cm_It → Bool) (f : cm_Fr) (K : List cm_Fr) : cm_ko vis (f :: K) = cm_ko vis K + cm_ni vis f.2.2.2.2 := rfl
theorem cm_kv_c (vis : cm_It → Bool) (f : cm_Fr) (K : List cm_Fr) : cm_kv vis (f :: K) = cm_kv vis K + cm_nv vis f.2.2.2.2 := rfl
theorem cm_ko_le (vis : cm_It → Bool) : ∀ K, cm_ko vis K ≤ cm_ko cm_al K := by
  intro K
  induction K with
  | nil => exact Nat.le_refl _
  | cons f K ih =>
    rw [cm_ko_c, cm_ko_c]
    have := cm_ni_le vis f.2.2.2.2
    omega
theorem cm_kv_le (vis : cm_It → Bool) : ∀ K, cm_kv vis K ≤ cm_kv cm_al K := by
  intro K
  induction K with
  | nil => exact Nat.le_refl _
  | cons f K ih =>
    rw [cm_kv_c, cm_kv_c]
    have := cm_nv_le vis f.2.2.2.2
    omega
theorem cm_li_c {vis : cm_It → Bool} {o1 o2 o3 p1 p2 p3 : Nat → Int32} {e1 e2 e3 : cm_It → Int32} {wo wp : Nat → Int64} {bo bv : Nat} : ∀ its, (∀ j, j < bo + cm_ni vis its → p1 j = o1 j ∧ p2 j = o2 j ∧ p3 j = o3 j) → (∀ j, j < bv + cm_nv vis its → wp j = wo j) → cm_li vis o1 o2 o3 e1 e2 e3 wo bo bv its → cm_li vis p1 p2 p3 e1 e2 e3 wp bo bv its := by
  intro its
  induction its with
  | nil => exact fun _ _ _ => trivial
  | cons i r ih =>
    rintro h1 h2 ⟨h3, h4⟩
    by_cases hv : vis i = true
    · rw [cm_ni_t hv] at h1
      rw [cm_nv_t hv] at h2
      refine ⟨fun _ => ?_, ih (fun j hj => h1 j (by omega)) (fun j hj => h2 j (by omega)) h4⟩
      obtain ⟨a, b, c, d⟩ := h3 hv
      have hj := h1 (bo + cm_ni vis r) (by omega)
      exact ⟨hj.1.trans a, hj.2.1.trans b, hj.2.2.trans c, fun q hq => (h2 _ (by omega)).trans (d q hq)⟩
    · rw [cm_ni_f hv] at h1
      rw [cm_nv_f hv] at h2
      exact ⟨fun z => absurd z hv, ih h1 h2 h4⟩
theorem cm_lk_c {vis : cm_It → Bool} {o1 o2 o3 p1 p2 p3 : Nat → Int32} {e1 e2 e3 : cm_It → Int32} {wo wp : Nat → Int64} {fM fP fT fO gM gP gT gO : Nat → Int32} {fA gA : Nat → Int64} {np : Nat → Nat} (hnp : ∀ m, np m ≤ 3) : ∀ K : List cm_Fr, (∀ j, j < K.length → gM j = fM j ∧ gP j = fP j ∧ gT j = fT j ∧ gO j = fO j) → (∀ j, j < 3 * K.length → gA j = fA j) → (∀ j, j < cm_ko vis K → p1 j = o1 j ∧ p2 j = o2 j ∧ p3 j = o3 j) → (∀ j, j < cm_kv vis K → wp j = wo j) → cm_lk vis o1 o2 o3 e1 e2 e3 wo fM fP fT fO fA np K → cm_lk vis p1 p2 p3 e1 e2 e3 wp gM gP gT gO gA np K := by
  intro K
  induction K with
  | nil => exact fun _ _ _ _ _ => trivial
  | cons f K ih =>
    rintro h1 h2 h3 h4 ⟨⟨a, b, c, d, e, g⟩, h5⟩
    rw [cm_ko_c] at h3
    rw [cm_kv_c] at h4
    have hl : (f :: K).length = K.length + 1 := rfl
    rw [hl] at h1 h2
    have hj := h1 K.length (by omega)
    have hn := hnp f.1
    refine ⟨⟨hj.1.trans a, hj.2.1.trans b, hj.2.2.1.trans c, hj.2.2.2.trans d, fun q hq => (h2 _ (by omega)).trans (e q hq), cm_li_c _ h3 h4 g⟩, ih (fun j hj => h1 j (by omega)) (fun j hj => h2 j (by omega)) (fun j hj => h3 j (by omega)) (fun j hj => h4 j (by omega)) h5⟩
/-- X sees no SEQ that has its first value -/
def cm_vx (TK : Nat → Int32) (i : cm_It) : Bool := decide (¬ (TK i.1 = 10 ∧ i.2.1 = 1))
theorem cm_vx_t {TK : Nat → Int32} {i : cm_It} (h : ¬ (TK i.1 = 10 ∧ i.2.1 = 1)) : cm_vx TK i = true := decide_eq_true h
theorem cm_vx_f {TK : Nat → Int32} {i : cm_It} (h : TK i.1 = 10 ∧ i.2.1 = 1) : ¬ cm_vx TK i = true := by
  unfold cm_vx
  intro z
  exact of_decide_eq_true z h
def cm_A (PC TK TV : Nat → Int32) (c : Nat) : Nat := rl_ar PC (TK c) (TV c)
def cm_np (PC MG : Nat → Int32) (m : Nat) : Nat := if (PC (MG m).toNatClampNeg).toNatClampNeg ≤ 3 then (PC (MG m).toNatClampNeg).toNatClampNeg else 0
theorem cm_np3 (PC MG : Nat → Int32) (m : Nat) : cm_np PC MG m ≤ 3 := by
  unfold cm_np
  by_cases h : (PC (MG m).toNatClampNeg).toNatClampNeg ≤ 3
  · rw [if_pos h]; exact h
  · rw [if_neg h]; omega
theorem cm_np_e {PC MG : Nat → Int32} {m g p : Nat} (hg : g < 5) (hp : p ≤ 3) (eg : MG m = nI g) (ep : PC g = nI p) : cm_np PC MG m = p := by
  unfold cm_np
  rw [eg, bs_clk (by omega), ep, bs_clk (by omega), if_pos hp]
/-- how many expressions the items of a frame still want, beyond the one at work -/
def cm_nd (A : Nat → Nat) : List cm_It → Nat
  | [] => 0
  | i :: r => cm_nd A r + (A i.1 - i.2.1 - 1)
def cm_lf (A : Nat → Nat) : List cm_It → Nat
  | [] => 0
  | i :: r => cm_lf A r + (A i.1 - i.2.1)
def cm_kl (A : Nat → Nat) : List cm_Fr → Nat
  | [] => 0
  | f :: K => cm_kl A K + cm_lf A f.2.2.2.2
/-- an item of method m, whose body has t tokens -/
def cm_io (A : Nat → Nat) (TK : Nat → Int32) (no m t : Nat) (i : cm_It) : Prop := ∃ j, j < t ∧ i.1 = 16 * m + j ∧ i.2.1 < A i.1 ∧ (TK i.1 = 9 → i.2.2.1 = 0 ∧ i.2.1 ≤ 1) ∧ (¬ TK i.1 = 9 → i.2.2.1 = i.2.1) ∧ ∀ q, q < i.2.2.1 → rl_val no (i.2.2.2 q)
def cm_fo (x no : Nat) (LC LL MG PC : Nat → Int32) (SP : Nat → Int64) (TK TV TC OC : Nat → Int32) (f : cm_Fr) : Prop := ∃ g p t, f.1 < 24 ∧ g < 5 ∧ 1 ≤ p ∧ p ≤ 3 ∧ t ≤ 16 ∧ MG f.1 = nI g ∧ PC g = nI p ∧ TC f.1 = nI t ∧ f.2.2.1 ≤ t ∧ rl_pn (rl_am PC TK TV f.1) (t - f.2.2.1) f.2.2.1 (cm_nd (cm_A PC TK TV) f.2.2.2.2 + x) ∧ (∀ i, i ∈ f.2.2.2.2 → cm_io (cm_A PC TK TV) TK no f.1 t i) ∧ (∀ q, q < p → rl_val no (f.2.2.2.1 q)) ∧ f.2.1 < or_mn (or_R LC LL OC SP f.2.2.2.1 p) p (or_L MG (or_R LC LL OC SP f.2.2.2.1 p) g p)
/-- what Y keeps of the order of each frame -/
def cm_ly (LC LL MG PC : Nat → Int32) (SP : Nat → Int64) (OC mn bk ch : Nat → Int32) : List cm_Fr → Prop
  | [] => True
  | f :: K => (∀ g p, g < 5 → p ≤ 3 → MG f.1 = nI g → PC g = nI p → mn K.length = nI (or_mn (or_R LC LL OC SP f.2.2.2.1 p) p (or_L MG (or_R LC LL OC SP f.2.2.2.1 p) g p)) ∧ bk K.length = bs_ci (or_sq (or_R LC LL OC SP f.2.2.2.1 p) p (or_L MG (or_R LC LL OC SP f.2.2.2.1 p) g p) (or_mn (or_R LC LL OC SP f.2.2.2.1 p) p (or_L MG (or_R LC LL OC SP f.2.2.2.1 p) g p)) = 0) 0 1 ∧ ∀ j, j < or_mn (or_R LC LL OC SP f.2.2.2.1 p) p (or_L MG (or_R LC LL OC SP f.2.2.2.1 p) g p) → ch (24 * K.length + j) = nI (or_ld (or_R LC LL OC SP f.2.2.2.1 p) p (or_sq (or_R LC LL OC SP f.2.2.2.1 p) p (or_L MG (or_R LC LL OC SP f.2.2.2.1 p) g p) j))) ∧ cm_ly LC LL MG PC SP OC mn bk ch K
theorem cm_ly_c {LC LL MG PC : Nat → Int32} {SP : Nat → Int64} {OC mn bk ch mn' bk' ch' : Nat → Int32} : ∀ K : List cm_Fr, (∀ j, j < K.length → mn' j = mn j ∧ bk' j = bk j) → (∀ j, j < 24 * K.length → ch' j = ch j) → cm_ly LC LL MG PC SP OC mn bk ch K → cm_ly LC LL MG PC SP OC mn' bk' ch' K := by
  intro K
  induction K with
  | nil => exact fun _ _ _ => trivial
  | cons f K ih =>
    rintro h1 h2 ⟨h3, h4⟩
    have hl : (f :: K).length = K.length + 1 := rfl
    rw [hl] at h1 h2
    refine ⟨fun g p hg hp eg ep => ?_, ih (fun j hj => h1 j (by omega)) (fun j hj => h2 j (by omega)) h4⟩
    obtain ⟨a, b, c⟩ := h3 g p hg hp eg ep
    have hj := h1 K.length (by omega)
    have hm := or_mn_le (or_R LC LL OC SP f.2.2.2.1 p) p (or_L MG (or_R LC LL OC SP f.2.2.2.1 p) g p)
    exact ⟨hj.1.trans a, hj.2.trans b, fun j hjm => (h2 _ (by omega)).trans (c j hjm)⟩
/-- objects may grow: the ranks of arguments that there were stay -/
theorem cm_R_c {LC LL OC OC' : Nat → Int32} {SP ar : Nat → Int64} {p no : Nat} (hno : no ≤ 20) (ha : ∀ q, q < p → rl_val no (ar q)) (hoc : ∀ k, k < no → OC' k = OC k) : or_R LC LL OC' SP ar p = or_R LC LL OC SP ar p := by
  funext m k
  unfold or_R
  by_cases hk : k < p
  · rw [bs_ct hk, bs_ct hk]
    have e : or_cv OC' (ar k) = or_cv OC (ar k) := by
      unfold or_cv
      rcases ha k hk with hi | ⟨q, hq, e⟩
      · rw [bs_ct hi, bs_ct hi]
      · rw [e, bs_cf (ob_ni (by omega)), bs_cf (ob_ni (by omega)), ob_ix (by omega), bs_clk (by omega), hoc q hq]
    unfold or_nr
    rw [e]
  · rw [bs_cf hk, bs_cf hk]
theorem cm_io_m {A : Nat → Nat} {TK : Nat → Int32} {no no' m t : Nat} (h : no ≤ no') {i : cm_It} (hi : cm_io A TK no m t i) : cm_io A TK no' m t i := by
  obtain ⟨j, h1, h2, h3, h4, h5, h6⟩ := hi
  exact ⟨j, h1, h2, h3, h4, h5, fun q hq => ob_mono h (h6 q hq)⟩
theorem cm_fo_m {x no no' : Nat} {LC LL MG PC : Nat → Int32} {SP : Nat → Int64} {TK TV TC OC OC' : Nat → Int32} {f : cm_Fr} (hn : no ≤ no') (hno : no ≤ 20) (hoc : ∀ k, k < no → OC' k = OC k) (h : cm_fo x no LC LL MG PC SP TK TV TC OC f) : cm_fo x no' LC LL MG PC SP TK TV TC OC' f := by
  obtain ⟨g, p, t, h1, h2, h3, h4, h5, h6, h7, h8, h9, h10, h11, h12, h13⟩ := h
  refine ⟨g, p, t, h1, h2, h3, h4, h5, h6, h7, h8, h9, h10, fun i hi => cm_io_m hn (h11 i hi), fun q hq => ob_mono hn (h12 q hq), ?_⟩
  rw [cm_R_c hno h12 hoc]
  exact h13
theorem cm_ly_m {no : Nat} {LC LL MG PC : Nat → Int32} {SP : Nat → Int64} {TK TV TC OC OC' mn bk ch : Nat → Int32} (hno : no ≤ 20) (hoc : ∀ k, k < no → OC' k = OC k) : ∀ K : List cm_Fr, (∀ f, f ∈ K → ∃ x, cm_fo x no LC LL MG PC SP TK TV TC OC f) → cm_ly LC LL MG PC SP OC mn bk ch K → cm_ly LC LL MG PC SP OC' mn bk ch K := by
  intro K
  induction K with
  | nil => exact fun _ _ => trivial
  | cons f K ih =>
    rintro hf ⟨h3, h4⟩
    refine ⟨fun g p hg hp eg ep => ?_, ih (fun f' hf' => hf f' (List.mem_cons_of_mem _ hf')) h4⟩
    obtain ⟨_, g', p', t, h1, h2, _, hp', h5, h6, h7, _, _, _, _, h12, _⟩ := hf f List.mem_cons_self
    rw [h6] at eg
    have e1 := bs_inj (by omega) (by omega) eg
    subst e1
    rw [h7] at ep
    have e2 := bs_inj (by omega) (by omega) ep
    subst e2
    rw [cm_R_c hno h12 hoc]
    exact h3 g' p' hg hp h6 h7
