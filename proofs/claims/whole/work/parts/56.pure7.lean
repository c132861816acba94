/-! PURE LEVEL 6: numbers in a range; call, end, fault, clear, turn, passage -/
theorem ip_cases0 (x : Int32) (n : Nat) (hn : n < 2 ^ 31) : (inI x 0 (nI n - 1) = 0 ∧ (x < 0 ∨ nI n ≤ x)) ∨ ∃ j : Nat, j < n ∧ x = nI j ∧ inI x 0 (nI n - 1) = 1 := by
  by_cases h : 1 ≤ n
  · exact ip_cases x n h hn
  · have e : n = 0 := by omega
    subst e
    refine Or.inl ?_
    have e1 : nI 0 - 1 = -1 := rfl
    by_cases c : x < 0
    · exact ⟨inI_nz.mpr (Or.inl c), Or.inl c⟩
    · have h0 : (nI 0) = 0 := rfl
      refine ⟨inI_nz.mpr (Or.inr ?_), Or.inr ?_⟩
      · rw [e1, ip_ltI]; rw [ip_ltI] at c; have : (-1 : Int32).toInt = -1 := rfl; have : (0 : Int32).toInt = 0 := rfl; omega
      · rw [h0, ip_leI]; rw [ip_ltI] at c; omega
theorem inI_rng (x : Int32) (lo hi : Nat) (hh : hi < 2 ^ 30) (hl : lo ≤ hi) : inI x (nI lo) (nI hi) = 0 ∨ ∃ j : Nat, lo ≤ j ∧ j ≤ hi ∧ x = nI j ∧ inI x (nI lo) (nI hi) = 1 := by
  rcases pk_ix x (n := hi + 1) (by omega) with c | c | ⟨j, hj, c⟩
  · refine Or.inl (inI_nz.mpr (Or.inl ?_))
    have := nI_pos' (n := lo) (by omega)
    rw [ip_ltI] at *; rw [ip_leI] at this; omega
  · refine Or.inl (inI_nz.mpr (Or.inr ?_))
    have := nI_lt (a := hi) (b := hi + 1) (by omega)
    have := this (by omega)
    rw [ip_ltI] at *; rw [ip_leI] at c; omega
  · subst c
    by_cases h : lo ≤ j
    · refine Or.inr ⟨j, h, by omega, rfl, ?_⟩
      unfold inI
      rw [if_neg (nI_nlt h (by omega)), if_neg (nI_nlt (by omega) (by omega))]
    · exact Or.inl (inI_nz.mpr (Or.inl (nI_lt (by omega) (by omega))))
theorem ip_has {Q : Int32 → Prop} {x : Int32} {n : Nat} (hn : n < 2 ^ 31) (h0 : (x < 0 ∨ nI n ≤ x) → Q 0) (h1 : ∀ s : Nat, s < n → x = nI s → Q 1) : wX1_has Q x (nI n) := by
  unfold wX1_has
  rcases pk_ix x hn with c | c | ⟨j, hj, c⟩
  · exact ip_T c (h0 (Or.inl c))
  · exact ip_split (fun d => h0 (Or.inl d)) (fun _ => ip_T c (h0 (Or.inr c)))
  · subst c
    exact ip_F (nI_pos (by omega)) (ip_F (nI_ge hj hn) (h1 j hj rfl))
theorem ip_isShip {Q : Int32 → Prop} {om : Nat → Option OR} {all : Nat → Int32} {g : GU} (W : Wf g) (R : Rg om all g) {x : Int32} (h0 : (x < 0 ∨ nI g.size ≤ x) → Q 0) (h1 : ∀ s : Nat, s < g.size → x = nI s → Q 1) : wX11_isShip Q x all := by
  have hs := W.s8
  unfold wX11_isShip
  rw [show (2 : Int32).toNatClampNeg = 2 from rfl, R.size]
  refine ⟨ip_in 2 _ rfl (by omega) (by omega), p_isIn.mpr ?_⟩
  rcases ip_cases0 x g.size (by omega) with ⟨e, c⟩ | ⟨j, hj, c, e⟩
  · rw [e]; exact ⟨rfl, h0 c⟩
  · rw [e]; exact ⟨rfl, h1 j hj c⟩
theorem no_ship {x : Int32} {n s : Nat} (hn : n < 2 ^ 31) (c : x < 0 ∨ nI n ≤ x) (hs : s < n) (e : x = nI s) : False := by
  subst e
  rcases c with c | c
  · exact nI_pos (by omega) c
  · exact nI_ge hs hn c
theorem sim_call {om : Nat → Option OR} {all : Nat → Int32} {w : WH} (W : WfW w) (R : RW om all w) {y1 y2 : Int32} {K : Int32 → (Nat → Int32) → Int32 → (Nat → Int32) → Prop}
    (hK : ∀ r told all', Ok om all (((((w.g.rows, w.g.cols, w.g.size, w.g.hour, w.g.laid, w.g.grown, w.g.melted, w.g.sea, w.g.fast, w.g.level, w.g.ridged, w.g.chan, w.g.str, w.g.fuel, w.g.place, (told), w.g.moved, w.g.line, w.g.done, w.g.ord, w.g.cold, w.g.way, w.g.force) : GU)), w.tlen, w.tape, w.fault, w.place, w.psize, w.frm, w.takes, w.worth, w.ssize, w.settled) : WH) all' → K r told r all') :
    wX10_call (fun r told => wX11_call (fun r2 all' => K r told r2 all') y1 y2 all) y1 y2 (nI w.g.size) w.g.told := by
  have hs := W.g.s8
  have hno : ∀ r, K r w.g.told r all := fun r => hK _ _ _ (Ok.same W R)
  unfold wX10_call
  refine ip_has (by omega) (fun c => ip_T rfl ?_) (fun s hs' e => ip_F (by decide) (p_within.mpr ?_))
  · unfold wX11_call
    exact ip_isShip W.g R.g (fun _ => ip_T rfl (hno _)) (fun s hs e => (no_ship (by omega) c hs e).elim)
  · subst e
    refine ip_split' (fun d => ?_) (fun d => ⟨vp_in_nI (by omega) (by omega), ?_⟩)
    · unfold wX11_call
      exact ip_isShip W.g R.g (fun c => (no_ship (by omega) c hs' rfl).elim) (fun _ _ _ => ip_F (by decide) (p_isIn.mpr (ip_T' d (hno _))))
    · unfold wX11_call
      refine ip_isShip W.g R.g (fun c => (no_ship (by omega) c hs' rfl).elim) (fun _ _ _ => ip_F (by decide) (p_isIn.mpr (ip_F' d (ip_ships s 4 (by omega) (by omega) ?_))))
      rw [nI_clamp (by omega)]
      refine hK _ _ _ (Ok.gulf W R (Wf.mk' (k_r1 := W.g.r1) (k_r8 := W.g.r8) (k_c1 := W.g.c1) (k_c8 := W.g.c8) (k_s8 := W.g.s8) (k_h1 := W.g.h1) (k_sea := W.g.sea) (k_fast := W.g.fast) (k_out := W.g.out) (k_chan := W.g.chan) (k_place := W.g.place) (k_dist := W.g.dist) (k_str := W.g.str) (k_done := W.g.done) (k_way := W.g.way) (k_force := W.g.force)) (R.g.setTold s y2 hs (by omega)) (fun i hi => by rw [pk_un (by omega)]))
theorem sim_end {om : Nat → Option OR} {all : Nat → Int32} {w : WH} (W : WfW w) (R : RW om all w) {y1 : Int32} {K : Int32 → Int32 → Int32 → (Nat → Int32) → Prop}
    (hK : ∀ r n all', Ok om all ((w.g, (n), w.tape, w.fault, w.place, w.psize, w.frm, w.takes, w.worth, w.ssize, w.settled) : WH) all' → K r (nI n) r all') :
    wX10_end (fun r n => wX11_end (fun r2 all' => K r n r2 all') y1 all) y1 (nI w.tlen) := by
  have ht := W.tlen
  have hno : ∀ r, K r (nI w.tlen) r all := fun r => hK _ w.tlen _ (Ok.same W R)
  unfold wX10_end wX11_end
  rw [p_within]
  rw [show (9 : Int32).toNatClampNeg = 9 from rfl, R.tlen]
  rcases inI_rng y1 0 w.tlen (by omega) (by omega) with e | ⟨j, h1, h2, e, f⟩
  · refine ip_T' e ?_
    rw [show nI 0 = 0 from rfl, inI_nz] at e
    refine ip_split (fun _ => hno _) (fun c => ⟨ip_in 9 _ rfl (by omega) (by omega), ip_split (fun d => ?_) (fun _ => hno _)⟩)
    rcases e with e | e
    · exact absurd e c
    · exfalso; rw [ip_ltI] at e; rw [ip_leI] at d; omega
  · refine ip_F' (by rw [show (0 : Int32) = nI 0 from rfl, f]; decide) ?_
    subst e
    refine ip_F (nI_pos (by omega)) ⟨ip_in 9 _ rfl (by omega) (by omega), ip_T (nI_le h2 (by omega)) ⟨ip_in 9 _ rfl (by omega) (by omega), hK _ j _ ?_⟩⟩
    refine ⟨(WfW.mk' (k_g := W.g) (k_tlen := Nat.le_trans h2 ht) (k_tape := fun i hi => W.tape i (by have : i < j := hi; omega)) (k_psize := W.psize) (k_frm := W.frm) (k_takes := W.takes) (k_worth := W.worth) (k_ssize := W.ssize)), (RW.mk' (k_g := R.g.congr W.g.s8 (fun i hi => pk_un (by omega))) (k_tlen := pk_us) (k_tape := fun i (hi : i < j) => (pk_un (by omega)).trans (R.tape i (by omega))) (k_fault := (pk_un (by omega)).trans R.fault) (k_place := (pk_un (by omega)).trans R.place) (k_psize := (pk_un (by omega)).trans R.psize) (k_frm := fun k hk => (pk_un (by omega)).trans (R.frm k hk)) (k_takes := fun k hk => (pk_un (by omega)).trans (R.takes k hk)) (k_worth := fun k hk => (pk_un (by omega)).trans (R.worth k hk)) (k_ssize := (pk_un (by omega)).trans R.ssize) (k_settled := fun k hk => (pk_un (by omega)).trans (R.settled k hk))), fun i hi => pk_un (by omega)⟩
theorem sim_fault {om : Nat → Option OR} {all : Nat → Int32} {w : WH} (R : RW om all w) {y1 : Int32} {K : Int32 → Int32 → Prop} (hK : ∀ r, K r r) :
    wX10_fault (fun r => wX11_fault (fun r2 => K r r2) y1 all) y1 w.fault w.place := by
  unfold wX10_fault wX11_fault
  rw [show (11 : Int32).toNatClampNeg = 11 from rfl, show (10 : Int32).toNatClampNeg = 10 from rfl, R.fault, R.place]
  have v1 := ip_in (x := 10) 10 53700 rfl (by omega) (by omega)
  have v2 := ip_in (x := 11) 11 53700 rfl (by omega) (by omega)
  refine ⟨fun e => ip_T' e ⟨v1, hK _⟩, fun e => ip_F' (by subst e; decide) (ip_T' e ⟨v2, hK _⟩), fun e => ip_F' e.1 (ip_F' e.2 (hK _))⟩
theorem sim_clear {om : Nat → Option OR} {all : Nat → Int32} {w : WH} (W : WfW w) (R : RW om all w) {K : Int32 → (Nat → Int32) → Prop} (hK : ∀ all', Ok om all ((w.g, w.tlen, w.tape, w.fault, w.place, (0), w.frm, w.takes, w.worth, w.ssize, w.settled) : WH) all' → K (nI 0) all') :
    wX10_clear (fun n => wX11_clear (fun all' => K n all') all) (nI w.psize) := by
  have hs := W.ssize
  refine ⟨ip_in 7 _ rfl (by omega) (by omega), hK _ ?_⟩
  rw [show (7 : Int32).toNatClampNeg = 7 from rfl]
  have no : ∀ {A : Nat → Prop} (k : Nat), k < 0 → A k := fun k hk => absurd hk (by omega)
  exact ⟨(WfW.mk' (k_g := W.g) (k_tlen := W.tlen) (k_tape := W.tape) (k_psize := Nat.zero_le _) (k_frm := fun k hk => absurd hk (Nat.not_lt_zero k)) (k_takes := fun k hk => absurd hk (Nat.not_lt_zero k)) (k_worth := fun k hk => absurd hk (Nat.not_lt_zero k)) (k_ssize := W.ssize)), (RW.mk' (k_g := R.g.congr W.g.s8 (fun i hi => pk_un (by omega))) (k_tlen := (pk_un (by omega)).trans R.tlen) (k_tape := fun i hi => (pk_un (by omega)).trans (R.tape i hi)) (k_fault := (pk_un (by omega)).trans R.fault) (k_place := (pk_un (by omega)).trans R.place) (k_psize := pk_us) (k_frm := fun k hk => absurd hk (Nat.not_lt_zero k)) (k_takes := fun k hk => absurd hk (Nat.not_lt_zero k)) (k_worth := fun k hk => absurd hk (Nat.not_lt_zero k)) (k_ssize := (pk_un (by omega)).trans R.ssize) (k_settled := fun k hk => (pk_un (by omega)).trans (R.settled k hk))), fun i hi => pk_un (by omega)⟩
theorem sim_turn {om : Nat → Option OR} {all : Nat → Int32} {w : WH} (W : WfW w) (R : RW om all w) {y1 : Int32} {K : Int32 → Int32 → Prop} (hK : ∀ r, K r r) :
    wX10_turn (fun r => wX11_turn (fun r2 => K r r2) y1 all) y1 (nI w.ssize) w.settled := by
  have hs := W.ssize
  unfold wX10_turn wX11_turn
  simp only [p_within, p_isIn]
  rw [show (8 : Int32).toNatClampNeg = 8 from rfl, R.ssize]
  have v1 := ip_in (x := 8) 8 53700 rfl (by omega) (by omega)
  rcases ip_cases0 y1 w.ssize (by omega) with ⟨e, c⟩ | ⟨j, hj, c, e⟩
  · exact ip_T' e ⟨v1, ip_T e (hK _)⟩
  · subst c
    refine ip_F' (by rw [e]; decide) ⟨vp_in_nI (by omega) (by omega), v1, ip_F (by rw [e]; decide) ?_⟩
    rw [show (12 : Int32) + nI j = nI (12 + j) from by rw [ip_lit, nI_add], nI_clamp (by omega), nI_clamp (by omega), R.settled j hj]
    exact ⟨vp_in_nI (by omega) (by omega), hK _⟩
theorem sim_passage {om : Nat → Option OR} {all : Nat → Int32} {w : WH} (W : WfW w) (R : RW om all w) {y1 y2 y3 : Int32} {K : Int32 → Int32 → (Nat → Int32) → (Nat → Int32) → (Nat → Int32) → Int32 → (Nat → Int32) → Prop}
    (hK : ∀ r n frm takes worth all', Ok om all ((w.g, w.tlen, w.tape, w.fault, w.place, (n), (frm), (takes), (worth), w.ssize, w.settled) : WH) all' → K r (nI n) frm takes worth r all') :
    wX10_passage (fun r n f t v => wX11_passage (fun r2 all' => K r n f t v r2 all') y1 y2 y3 all) y1 y2 y3 (nI w.psize) w.frm w.takes w.worth := by
  have hp := W.psize
  have hno : ∀ r, K r (nI w.psize) w.frm w.takes w.worth r all := fun r => hK _ w.psize _ _ _ _ (Ok.same W R)
  have v7 := ip_in (x := 7) 7 53700 rfl (by omega) (by omega)
  unfold wX10_passage wX11_passage
  simp only [p_within, p_isIn]
  rw [show (7 : Int32).toNatClampNeg = 7 from rfl, R.psize]
  have e20 : (20 : Int32) + 3 * nI w.psize = nI (20 + 3 * w.psize) := by simp only [ip_lit, pk_mul, nI_add]
  refine ip_split (fun c1 => ⟨v7, ip_split (fun _ => hno _) (fun _ => ip_T c1 (hno _))⟩) (fun c1 => ip_split (fun c2 => ⟨v7, ip_split (fun _ => hno _) (fun _ => ip_F c1 (ip_T c2 (hno _)))⟩) (fun c2 => ip_split' (fun c3 => ⟨v7, ip_split (fun _ => hno _) (fun _ => ip_F c1 (ip_F c2 (ip_T' c3 (hno _))))⟩) (fun c3 => ?_)))
  unfold wX0_join
  refine ip_split (fun c4 => ?_) (fun c4 => ⟨v7, ip_T ?_ (hno _)⟩)
  · have c4' : w.psize < 6 := by
      rw [show (6 : Int32) = nI 6 from rfl, nI_ltI (by omega) (by omega)] at c4; exact c4
    have v := vp_in_nI c4' (by omega)
    refine ⟨v, v, v, v7, ip_F (by rw [show (6 : Int32) = nI 6 from rfl, nI_eq (by omega) (by omega)]; omega) (ip_F c1 (ip_F c2 (ip_F' c3 ?_)))⟩
    simp only [e20, nI_clamp (show w.psize < 2 ^ 31 by omega)]
    rw [show nI (20 + 3 * w.psize) + 1 = nI (20 + 3 * w.psize + 1) from nI_1 _, show nI (20 + 3 * w.psize) + 2 = nI (20 + 3 * w.psize + 2) from nI_add _ 2, nI_clamp (by omega), nI_clamp (by omega), nI_clamp (by omega)]
    have e7 : upd (upd (upd all (20 + 3 * w.psize) y1) (20 + 3 * w.psize + 1) y2) (20 + 3 * w.psize + 2) y3 7 = nI w.psize := by
      rw [pk_un (by omega), pk_un (by omega), pk_un (by omega), R.psize]
    rw [e7, pk_us, nI_1, show nI (w.psize + 1) - 1 = nI w.psize from nI_pred _]
    refine ⟨v7, vp_in_nI (by omega) (by omega), vp_in_nI (by omega) (by omega), vp_in_nI (by omega) (by omega), v7, v7, v7, ?_⟩
    have b1 := (inI_rng y1 0 1000 (by omega) (by omega)).resolve_left c1
    have b2 := (inI_rng y2 1 100 (by omega) (by omega)).resolve_left c2
    have b3 := (inI_rng y3 1 100 (by omega) (by omega)).resolve_left c3
    obtain ⟨j1, -, h1, e1, -⟩ := b1
    obtain ⟨j2, -, h2, e2, -⟩ := b2
    obtain ⟨j3, -, h3, e3, -⟩ := b3
    have hs6 := W.ssize
    have hu : ∀ (f : Nat → Int32) (y : Int32) (b : Nat), (∀ k, k < w.psize → ∃ c : Nat, c ≤ b ∧ f k = nI c) → (∃ c : Nat, c ≤ b ∧ y = nI c) → ∀ k, k < w.psize + 1 → ∃ c : Nat, c ≤ b ∧ upd f w.psize y k = nI c := by
      intro f y b hf hy k hk
      by_cases e : k = w.psize
      · subst e; rw [pk_us]; exact hy
      · rw [pk_un e]; exact hf k (by omega)
    have hr : ∀ (f : Nat → Int32) (y : Int32) (d : Nat), d < 3 → (upd (upd (upd (upd all (20 + 3 * w.psize) y1) (20 + 3 * w.psize + 1) y2) (20 + 3 * w.psize + 2) y3) 7 (nI (w.psize + 1))) (20 + 3 * w.psize + d) = y → (∀ k, k < w.psize → all (20 + 3 * k + d) = f k) → ∀ k, k < w.psize + 1 → (upd (upd (upd (upd all (20 + 3 * w.psize) y1) (20 + 3 * w.psize + 1) y2) (20 + 3 * w.psize + 2) y3) 7 (nI (w.psize + 1))) (20 + 3 * k + d) = upd f w.psize y k := by
      intro f y d hd h1 h2 k hk
      by_cases e : k = w.psize
      · subst e; rw [pk_us]; exact h1
      · rw [pk_un e, pk_un (by omega), pk_un (by omega), pk_un (by omega), pk_un (by omega)]; exact h2 k (by omega)
    have un : ∀ i : Nat, (i < 7 ∨ 7 < i ∧ i < 20 ∨ 40 ≤ i) → (upd (upd (upd (upd all (20 + 3 * w.psize) y1) (20 + 3 * w.psize + 1) y2) (20 + 3 * w.psize + 2) y3) 7 (nI (w.psize + 1))) i = all i := fun i hi => by
      rw [pk_un (by omega), pk_un (by omega), pk_un (by omega), pk_un (by omega)]
    refine hK _ (w.psize + 1) _ _ _ _ ⟨(WfW.mk' (k_g := W.g) (k_tlen := W.tlen) (k_tape := W.tape) (k_psize := c4') (k_frm := hu _ _ _ W.frm ⟨j1, h1, e1⟩) (k_takes := hu _ _ _ W.takes ⟨j2, h2, e2⟩) (k_worth := hu _ _ _ W.worth ⟨j3, h3, e3⟩) (k_ssize := W.ssize)), (RW.mk' (k_g := R.g.congr W.g.s8 (fun i hi => un i (by omega))) (k_tlen := (un _ (by omega)).trans R.tlen) (k_tape := fun i hi => (un _ (by omega)).trans (R.tape i hi)) (k_fault := (un _ (by omega)).trans R.fault) (k_place := (un _ (by omega)).trans R.place) (k_psize := pk_us) (k_frm := hr _ _ 0 (by omega) ?_ R.frm) (k_takes := hr _ _ 1 (by omega) ?_ R.takes) (k_worth := hr _ _ 2 (by omega) ?_ R.worth) (k_ssize := (un _ (by omega)).trans R.ssize) (k_settled := fun k hk => (un _ (by have : k < w.ssize := hk; omega)).trans (R.settled k hk))), fun i hi => un i (by omega)⟩
    · rw [pk_un (by omega), pk_un (by omega), pk_un (by omega)]; exact pk_us
    · rw [pk_un (by omega), pk_un (by omega), pk_us]
    · rw [pk_un (by omega), pk_us]
  · rw [show (6 : Int32) = nI 6 from rfl, nI_ltI (by omega) (by omega)] at c4
    rw [show (6 : Int32) = nI 6 from rfl, show w.psize = 6 by omega]
