/-! PURE LEVEL 3: cells and ships found, on both sides -/
theorem ip_ltI {a b : Int32} : a < b ↔ a.toInt < b.toInt := Int32.lt_iff_toInt_lt
theorem ip_leI {a b : Int32} : a ≤ b ↔ a.toInt ≤ b.toInt := Int32.le_iff_toInt_le
theorem ip_cases (x : Int32) (n : Nat) (h1 : 1 ≤ n) (hn : n < 2 ^ 31) : (inI x 0 (nI n - 1) = 0 ∧ (x < 0 ∨ nI n ≤ x)) ∨ ∃ j : Nat, j < n ∧ x = nI j ∧ inI x 0 (nI n - 1) = 1 := by
  have e : nI n - 1 = nI (n - 1) := by rw [show (1 : Int32) = nI 1 from rfl, pk_sub h1]
  rw [e]
  rcases pk_ix x hn with c | c | ⟨j, hj, c⟩
  · exact Or.inl ⟨inI_nz.mpr (Or.inl c), Or.inl c⟩
  · refine Or.inl ⟨inI_nz.mpr (Or.inr ?_), Or.inr c⟩
    have := nI_lt (a := n - 1) (b := n) (by omega) hn
    rw [ip_ltI] at *
    rw [ip_leI] at c
    omega
  · subst c
    refine Or.inr ⟨j, hj, rfl, ?_⟩
    unfold inI
    rw [if_neg (nI_pos (by omega)), if_neg (nI_nlt (by omega) (by omega))]
theorem find_cases (r c : Int32) {R C : Nat} (hR : R ≤ 8) (hC : C ≤ 8) : (findV r c (nI R) (nI C) = -1 ∧ ¬ ∃ a b : Nat, a < R ∧ b < C ∧ r = nI a ∧ c = nI b) ∨ ∃ a b : Nat, a < R ∧ b < C ∧ r = nI a ∧ c = nI b ∧ findV r c (nI R) (nI C) = nI (8 * a + b) := by
  rcases pk_ix r (n := R) (by omega) with h | h | ⟨a, ha, h⟩
  · refine Or.inl ⟨by unfold findV; rw [if_pos h], ?_⟩
    rintro ⟨a, b, ha, hb, e, -⟩
    subst e; exact absurd h (nI_pos (by omega))
  · refine Or.inl ⟨by unfold findV; rw [if_pos h, ite_self], ?_⟩
    rintro ⟨a, b, ha, hb, e, -⟩
    subst e; exact absurd h (nI_ge (by omega) (by omega))
  · subst h
    rcases pk_ix c (n := C) (by omega) with h | h | ⟨b, hb, h⟩
    · refine Or.inl ⟨by unfold findV; rw [if_neg (nI_pos (by omega)), if_neg (nI_ge (by omega) (by omega)), if_pos h], ?_⟩
      rintro ⟨a, b, ha, hb, -, e⟩
      subst e; exact absurd h (nI_pos (by omega))
    · refine Or.inl ⟨by unfold findV; rw [if_neg (nI_pos (by omega)), if_neg (nI_ge (by omega) (by omega)), if_neg (show ¬ c < nI C by rw [ip_ltI]; rw [ip_leI] at h; omega), ite_self], ?_⟩
      rintro ⟨a, b, ha, hb, -, e⟩
      subst e; exact absurd h (nI_ge (by omega) (by omega))
    · subst h
      refine Or.inr ⟨a, b, ha, hb, rfl, rfl, ?_⟩
      unfold findV
      rw [if_neg (nI_pos (by omega)), if_neg (nI_ge (by omega) (by omega)), if_neg (nI_pos (by omega)), if_pos (nI_lt hb (by omega))]
      simp only [ip_lit, pk_mul, nI_add]
      rw [Nat.mul_comm]
def GU.find (g : GU) (r c : Int32) : Int32 := findV r c (nI g.rows) (nI g.cols)
theorem nI_ne_m1 {n : Nat} (h : n < 2 ^ 31) : ¬ nI n = -1 := by
  intro e
  have := congrArg Int32.toInt e
  rw [nI_toInt h] at this
  have e1 : ((-1 : Int32)).toInt = -1 := by decide
  omega
theorem nI_nm1 {n : Nat} (h : n < 2 ^ 31) : nI n ≠ -1 := nI_ne_m1 h
/-- a cell of the gulf or none -/
theorem GU.find_cases {g : GU} (W : Wf g) (r c : Int32) : (g.find r c = -1 ∧ ¬ ∃ a b : Nat, a < g.rows ∧ b < g.cols ∧ r = nI a ∧ c = nI b) ∨ ∃ a b : Nat, a < g.rows ∧ b < g.cols ∧ r = nI a ∧ c = nI b ∧ g.find r c = nI (8 * a + b) :=
  Jvm.Pilot.CIcePilotsLaw_law_r1887_8f2fdb.find_cases r c W.r8 W.c8
theorem ip_isCell {Q : Int32 → Prop} {om : Nat → Option OR} {all : Nat → Int32} {g : GU} (W : Wf g) (R : Rg om all g) (r c : Int32) (h : Q (bI (g.find r c ≠ -1))) : wX11_isCell Q r c all := by
  unfold wX11_isCell
  have e0 : (0 : Int32).toNatClampNeg = 0 := rfl
  have e1 : (1 : Int32).toNatClampNeg = 1 := rfl
  rw [e0, e1, R.rows, R.cols]
  refine ⟨ip_in 0 _ rfl (by omega) (by omega), p_isIn.mpr ?_⟩
  have hc1 := W.c1; have hc8 := W.c8; have hr1 := W.r1; have hr8 := W.r8
  rcases ip_cases r g.rows W.r1 (by omega) with ⟨ha, hb⟩ | ⟨a, ha, er, eb⟩
  · rw [ha]
    refine ip_T rfl ?_
    rcases GU.find_cases W r c with ⟨f, -⟩ | ⟨a, b, h1, h2, h3, h4, f⟩
    · rw [bI_F (by rw [f]; simp)] at h; exact h
    · subst h3
      rcases hb with hb | hb
      · exact absurd hb (nI_pos (by omega))
      · exact absurd hb (nI_ge (by omega) (by omega))
  · rw [eb]
    refine ip_F (by decide) ⟨ip_in 1 _ rfl (by omega) (by omega), p_isIn.mpr ?_⟩
    rcases ip_cases c g.cols W.c1 (by omega) with ⟨ha', hb⟩ | ⟨b, hb, ec, eb'⟩
    · rw [ha']
      refine ip_T rfl ?_
      rcases GU.find_cases W r c with ⟨f, -⟩ | ⟨a, b, h1, h2, h3, h4, f⟩
      · rw [bI_F (by rw [f]; simp)] at h; exact h
      · subst h4
        rcases hb with hb | hb
        · exact absurd hb (nI_pos (by omega))
        · exact absurd hb (nI_ge (by omega) (by omega))
    · rw [eb']
      refine ip_F (by decide) ?_
      rcases GU.find_cases W r c with ⟨f, n⟩ | ⟨a', b', h1, h2, h3, h4, f⟩
      · exact absurd ⟨a, b, ha, hb, er, ec⟩ n
      · rw [bI_T (by rw [f]; exact nI_nm1 (by omega))] at h; exact h
/-- the first number from i on, of the next m, with this property -/
def firstP (p : Nat → Prop) [DecidablePred p] : Nat → Nat → Int32
  | 0, _ => -1
  | m + 1, i => if p i then nI i else firstP p m (i + 1)
theorem firstP_congr {p q : Nat → Prop} [DecidablePred p] [DecidablePred q] : ∀ (m i : Nat), (∀ j, i ≤ j → j < i + m → (p j ↔ q j)) → firstP p m i = firstP q m i := by
  intro m
  induction m with
  | zero => intro i _; rfl
  | succ m ih =>
    intro i h
    unfold firstP
    rw [ih (i + 1) (fun j h1 h2 => h j (by omega) (by omega))]
    by_cases c : p i
    · rw [if_pos c, if_pos ((h i (by omega) (by omega)).mp c)]
    · rw [if_neg c, if_neg (fun d => c ((h i (by omega) (by omega)).mpr d))]
theorem firstP_cases (p : Nat → Prop) [DecidablePred p] : ∀ (m i : Nat), (firstP p m i = -1 ∧ ∀ j, i ≤ j → j < i + m → ¬ p j) ∨ ∃ j, i ≤ j ∧ j < i + m ∧ p j ∧ firstP p m i = nI j ∧ ∀ t, i ≤ t → t < j → ¬ p t := by
  intro m
  induction m with
  | zero => intro i; exact Or.inl ⟨rfl, fun j h1 h2 => absurd h2 (by omega)⟩
  | succ m ih =>
    intro i
    unfold firstP
    by_cases c : p i
    · rw [if_pos c]
      exact Or.inr ⟨i, by omega, by omega, c, rfl, fun t h1 h2 => absurd h2 (by omega)⟩
    · rw [if_neg c]
      rcases ih (i + 1) with ⟨h1, h2⟩ | ⟨j, h1, h2, h3, h4, h5⟩
      · refine Or.inl ⟨h1, fun j a b => ?_⟩
        by_cases e : j = i
        · subst e; exact c
        · exact h2 j (by omega) (by omega)
      · refine Or.inr ⟨j, by omega, by omega, h3, h4, fun t a b => ?_⟩
        by_cases e : t = i
        · subst e; exact c
        · exact h5 t (by omega) b
def GU.shipIn (g : GU) (x : Int32) : Int32 := firstP (fun s => g.place s = x) g.size 0
theorem ip_shipIn_loop {Q : Int32 → Prop} {x : Int32} {n : Nat} {place : Nat → Int32} (hn : n ≤ 8) : ∀ (m i : Nat), i + m = n → Q (firstP (fun s => place s = x) m i) → wX1_shipIn_2 Q (m + 1) x (nI i) (nI n) place := by
  intro m
  induction m with
  | zero =>
    intro i hi h
    have e : i = n := by omega
    subst e
    exact ip_T (nI_le (Nat.le_refl _) (by omega)) h
  | succ m ih =>
    intro i hi h
    refine ip_F (nI_ge (by omega) (by omega)) ⟨vp_in_nI (by omega) (by omega), ?_⟩
    rw [nI_clamp (by omega)]
    refine ip_split' (fun c => ?_) (fun c => ?_)
    · rw [firstP, if_pos c] at h
      exact h
    · rw [nI_1]
      refine ih (i + 1) (by omega) ?_
      rw [firstP, if_neg c] at h
      exact h
theorem ip_shipIn {Q : Int32 → Prop} {g : GU} (W : Wf g) {x : Int32} (h : Q (g.shipIn x)) : wX1_shipIn Q x (nI g.size) g.place :=
  ⟨g.size + 1, ip_shipIn_loop W.s8 g.size 0 (by omega) h⟩
def GU.shipAt (g : GU) (r c : Int32) : Int32 := firstP (fun s => nI (g.pl s / 8) = r ∧ nI (g.pl s % 8) = c) g.size 0
theorem ip_shipAt_loop {Q : Int32 → Prop} {om : Nat → Option OR} {all : Nat → Int32} {g : GU} (W : Wf g) (R : Rg om all g) {r c : Int32} : ∀ (m i : Nat), i + m = g.size → Q (firstP (fun s => nI (g.pl s / 8) = r ∧ nI (g.pl s % 8) = c) m i) → wX11_shipAt_2 Q (m + 1) r c (nI i) all := by
  have hs := W.s8
  intro m
  induction m with
  | zero =>
    intro i hi h
    have e : i = g.size := by omega
    subst e
    refine ⟨ip_in 2 _ rfl (by omega) (by omega), ip_T ?_ h⟩
    rw [show (2 : Int32).toNatClampNeg = 2 from rfl, R.size]
    exact nI_le (Nat.le_refl _) (by omega)
  | succ m ih =>
    intro i hi h
    refine ⟨ip_in 2 _ rfl (by omega) (by omega), ip_F ?_ ?_⟩
    · rw [show (2 : Int32).toNatClampNeg = 2 from rfl, R.size]
      exact nI_ge (by omega) (by omega)
    refine ip_its i 2 (by omega) (by omega) ?_
    rw [R.prow i (by omega)]
    rw [firstP] at h
    refine ip_split' (fun d => ip_its i 3 (by omega) (by omega) ?_) (fun d => ?_)
    · rw [R.pcol i (by omega)]
      refine ip_split' (fun f => ?_) (fun f => ?_)
      · rw [if_pos ⟨d, f⟩] at h
        exact h
      · unfold wX11_shipAt_34
        rw [nI_1]
        refine ih (i + 1) (by omega) ?_
        rw [if_neg (fun q => f q.2)] at h
        exact h
    · unfold wX11_shipAt_34
      rw [nI_1]
      refine ih (i + 1) (by omega) ?_
      rw [if_neg (fun q => d q.1)] at h
      exact h
theorem ip_shipAt {Q : Int32 → Prop} {om : Nat → Option OR} {all : Nat → Int32} {g : GU} (W : Wf g) (R : Rg om all g) {r c : Int32} (h : Q (g.shipAt r c)) : wX11_shipAt Q r c all :=
  ⟨g.size + 1, ip_shipAt_loop W R g.size 0 (by omega) h⟩
theorem GU.shipAt_in {g : GU} (W : Wf g) {a b : Nat} (ha : a < 8) (hb : b < 8) : g.shipAt (nI a) (nI b) = g.shipIn (nI (8 * a + b)) := by
  refine firstP_congr _ _ (fun s _ hs => ?_)
  obtain ⟨e, h6, -⟩ := W.place s (by omega)
  rw [e, nI_eq (by omega) (by omega), nI_eq (by omega) (by omega), nI_eq (by omega) (by omega)]
  omega
theorem ip_isSea {Q : Int32 → Prop} {om : Nat → Option OR} {all : Nat → Int32} {g : GU} (W : Wf g) (R : Rg om all g) (r c : Int32) (h : Q (bI (g.find r c ≠ -1 ∧ g.sea (g.find r c).toNatClampNeg = 1))) : wX11_isSea Q r c all := by
  unfold wX11_isSea
  refine ip_isCell W R r c ?_
  have hc8 := W.c8; have hr8 := W.r8
  rcases GU.find_cases W r c with ⟨f, -⟩ | ⟨a, b, ha, hb, er, ec, f⟩
  · rw [bI_F (by rw [f]; simp)]
    rw [bI_F (by rw [f]; simp)] at h
    exact ip_T rfl h
  · rw [bI_T (by rw [f]; exact nI_nm1 (by omega))]
    refine ip_F (by decide) ?_
    subst er; subst ec
    refine ip_of a b 0 (by omega) (by omega) (by omega) ?_
    rw [f, nI_clamp (by omega)] at h
    rw [Nat.add_zero, R.sea _ (by omega) ⟨by omega, by omega⟩]
    refine ip_split' (fun e => ?_) (fun e => ?_)
    · rw [bI_T ⟨nI_nm1 (by omega), e⟩] at h; exact h
    · rw [bI_F (fun q => e q.2)] at h; exact h
