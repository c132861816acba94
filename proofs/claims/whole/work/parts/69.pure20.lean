/-! PURE LEVEL 19: drift in the reference; channels close -/
theorem i_ac (a c l : Int32) : a + (c - l) = (a - l) + c := by
  rw [Int32.sub_eq_add_neg, Int32.sub_eq_add_neg, Int32.add_assoc, Int32.add_comm c]
theorem rF_keep {f F : Nat → Int32} {n : Nat} (h : F n = f n) : rF f 0 n F = rF f 0 (n + 1) F := by
  funext k
  by_cases e : k = n
  · subst e; rw [rF_out (by omega), rF_in (by omega) (by omega), h]
  · by_cases c : k < n
    · rw [rF_in (by omega) (by omega), rF_in (by omega) (by omega)]
    · rw [rF_out (by omega), rF_out (by omega)]
theorem m_drift_3 {om : Nat → Option OR} {Q : (Nat → Int32) → (Nat → Int32) → (Nat → Int32) → Prop} {all co le : Nat → Int32} {g : GU} (W : Wf g) {wy : Nat} (hw : wy < 4) {fo : Int32} (hf : 0 < fo) (hc : Al64 co (comF g wy fo (8 * g.rows))) (hl : Al64 le (leaF g wy fo (8 * g.rows))) (h : ∀ all', OkG om all (g.drf wy fo) all' → Q all' co le) : ∀ (m i : Nat), i + m = 64 → ∀ all1, Rg om all1 ((g.rows, g.cols, g.size, g.hour, g.laid, g.grown, g.melted, g.sea, g.fast, (rF g.level 0 i (fun k => clampT (g.tog wy fo k))), (rF g.ridged 0 i (fun k => g.ridged k + (g.tog wy fo k - clampT (g.tog wy fo k)))), g.chan, g.str, g.fuel, g.place, g.told, g.moved, g.line, g.done, g.ord, g.cold, g.way, g.force) : GU) → (∀ j, (7 ≤ j ∧ j < 40 ∨ 10340 ≤ j) → all1 j = all j) → wX11_drifts_182 Q (m + 1) (nI i) all1 co le := by
  intro m
  induction m with
  | zero =>
    intro i hi all1 R1 un
    have e : i = 64 := by omega
    subst e
    refine ip_T (by decide) (h all1 ⟨?_, ?_, un⟩)
    · unfold GU.drf
      rw [if_pos hf]
      exact (Wf.mk'
        (k_r1 := W.r1)
        (k_r8 := W.r8)
        (k_c1 := W.c1)
        (k_c8 := W.c8)
        (k_s8 := W.s8)
        (k_h1 := W.h1)
        (k_sea := W.sea)
        (k_fast := W.fast)
        (k_out := fun k hk ho => by
          have t0 := (tog_out W hw (fo := fo) hk ho).1
          obtain ⟨o1, o2, o3, o4⟩ := W.out k hk ho
          refine ⟨o1, ?_, ?_, o4⟩
          · show rF g.level 0 64 (fun k => clampT (g.tog wy fo k)) k = 0
            rw [rF_in (by omega) (by omega), t0]; rfl
          · show rF g.ridged 0 64 (fun k => g.ridged k + (g.tog wy fo k - clampT (g.tog wy fo k))) k = 0
            rw [rF_in (by omega) (by omega), t0, o3]; rfl)
        (k_chan := W.chan)
        (k_place := W.place)
        (k_dist := W.dist)
        (k_str := W.str)
        (k_done := W.done)
        (k_way := W.way)
        (k_force := W.force))
    · unfold GU.drf
      rw [if_pos hf]
      exact R1
  | succ m ih =>
    intro i hi all1 R1 un
    have v := vp_in_nI (show i < 64 by omega) (by omega)
    have e1 : (40 : Int32) + 5 * nI i + 1 = nI (40 + 5 * i + 1) := by simp only [ip_lit, pk_mul, nI_add]
    have e2 : (40 : Int32) + 5 * nI i + 2 = nI (40 + 5 * i + 2) := by simp only [ip_lit, pk_mul, nI_add]
    have v1 := vp_in_nI (show 40 + 5 * i + 1 < 53700 by omega) (by omega)
    have v2 := vp_in_nI (show 40 + 5 * i + 2 < 53700 by omega) (by omega)
    refine ip_F (nI_ge (a := i) (b := 64) (by omega) (by omega)) ?_
    rw [e1, e2, nI_clamp (by omega), nI_clamp (by omega), nI_clamp (by omega)]
    have lv : all1 (40 + 5 * i + 1) = g.level i := (R1.level i (by omega)).trans (show rF g.level 0 i (fun k => clampT (g.tog wy fo k)) i = g.level i from rF_out (by omega))
    have rd : all1 (40 + 5 * i + 2) = g.ridged i := (R1.ridged i (by omega)).trans (show rF g.ridged 0 i (fun k => g.ridged k + (g.tog wy fo k - clampT (g.tog wy fo k))) i = g.ridged i from rF_out (by omega))
    have tg : g.level i + (co i - le i) = g.tog wy fo i := by
      rw [hc i (by omega), hl i (by omega), i_ac]
      unfold GU.tog
      rw [lev_lea]
    rw [lv, tg, pk_us, pk_un (show 40 + 5 * i + 2 ≠ 40 + 5 * i + 1 by omega), rd]
    refine ⟨v1, v, v, v1, v1, ?_⟩
    have fin : ∀ all2, Rg om all2 ((g.rows, g.cols, g.size, g.hour, g.laid, g.grown, g.melted, g.sea, g.fast, (upd (rF g.level 0 i (fun k => clampT (g.tog wy fo k))) i (clampT (g.tog wy fo i))), (upd (rF g.ridged 0 i (fun k => g.ridged k + (g.tog wy fo k - clampT (g.tog wy fo k)))) i (g.ridged i + (g.tog wy fo i - clampT (g.tog wy fo i)))), g.chan, g.str, g.fuel, g.place, g.told, g.moved, g.line, g.done, g.ord, g.cold, g.way, g.force) : GU) → (∀ j, (7 ≤ j ∧ j < 40 ∨ 10340 ≤ j) → all2 j = all j) → wX11_drifts_273 Q (wX11_drifts_182 Q (m + 1)) (nI i) all2 co le := by
      intro all2 R2 un2
      unfold wX11_drifts_273
      rw [nI_1]
      refine ih (i + 1) (by omega) all2 ?_ un2
      rw [rF_succ0 (f := g.level) (F := fun k => clampT (g.tog wy fo k)) rfl, rF_succ0 (f := g.ridged) (F := fun k => g.ridged k + (g.tog wy fo k - clampT (g.tog wy fo k))) rfl] at R2
      exact R2
    refine ip_split (fun c => ⟨v2, v1, v2, v1, ?_⟩) (fun c => ?_)
    · have ec : clampT (g.tog wy fo i) = 100 := by unfold clampT; rw [if_pos c]
      have R2 := (R1.setRidged i (g.ridged i + (g.tog wy fo i - 100)) (by omega)).setLevel i 100 (by omega)
      refine fin _ ?_ (fun j hj => by rw [pk_un (by omega), pk_un (by omega), pk_un (by omega)]; exact un j hj)
      rw [ec]
      have ea : upd (upd (upd all1 (40 + 5 * i + 1) (g.tog wy fo i)) (40 + 5 * i + 2) (g.ridged i + (g.tog wy fo i - 100))) (40 + 5 * i + 1) 100 = upd (upd all1 (40 + 5 * i + 2) (g.ridged i + (g.tog wy fo i - 100))) (40 + 5 * i + 1) 100 := by
        funext j
        by_cases q : j = 40 + 5 * i + 1
        · subst q; rw [pk_us, pk_us]
        · rw [pk_un q, pk_un q]
          by_cases q2 : j = 40 + 5 * i + 2
          · subst q2; rw [pk_us, pk_us]
          · rw [pk_un q2, pk_un q2, pk_un q]
      rw [ea]
      exact R2
    · have ec : clampT (g.tog wy fo i) = g.tog wy fo i := by unfold clampT; rw [if_neg c]
      have R2 := R1.setLevel i (g.tog wy fo i) (by omega)
      refine fin _ ?_ (fun j hj => by rw [pk_un (by omega)]; exact un j hj)
      rw [ec, Int32.sub_self, Int32.add_zero]
      have er : upd (rF g.ridged 0 i (fun k => g.ridged k + (g.tog wy fo k - clampT (g.tog wy fo k)))) i (g.ridged i) = rF g.ridged 0 i (fun k => g.ridged k + (g.tog wy fo k - clampT (g.tog wy fo k))) := by
        funext j
        by_cases q : j = i
        · subst q; rw [pk_us, rF_out (by omega)]
        · rw [pk_un q]
      rw [er]
      exact R2
theorem sea_nz {g : GU} (W : Wf g) {k : Nat} (hk : k < 64) : (¬ g.sea k = 0) ↔ g.sea k = 1 := by
  rcases W.sea k hk with e | e
  · rw [e]; decide
  · rw [e]; decide
theorem m_drift_2 {om : Nat → Option OR} {Q : (Nat → Int32) → (Nat → Int32) → (Nat → Int32) → Prop} {Kf : Int32 → Int32 → Int32 → (Nat → Int32) → (Nat → Int32) → (Nat → Int32) → Prop} {all : Nat → Int32} {g : GU} (W : Wf g) (R : Rg om all g) {wy : Nat} (hw : wy < 4) {fo : Int32} {a : Nat} (ha : a < g.rows) (h : ∀ co le, Al64 co (comF g wy fo (8 * a + g.cols)) → Al64 le (leaF g wy fo (8 * a + g.cols)) → Kf (nI wy) fo (nI (a + 1)) all co le) : ∀ (m i : Nat), i + m = g.cols → ∀ co le, Al64 co (comF g wy fo (8 * a + i)) → Al64 le (leaF g wy fo (8 * a + i)) → wX11_drifts_48 Q Kf (m + 1) (nI wy) fo (nI a) (nI i) all co le := by
  have hc := W.c8
  have hr := W.r8
  have v1 := ip_in (x := 1) 1 53700 rfl (by omega) (by omega)
  intro m
  induction m with
  | zero =>
    intro i hi co le h1 h2
    have e : i = g.cols := by omega
    subst e
    refine ⟨v1, ip_T ?_ (by rw [nI_1]; exact h co le h1 h2)⟩
    rw [show (1 : Int32).toNatClampNeg = 1 from rfl, R.cols]
    exact nI_le (Nat.le_refl _) (by omega)
  | succ m ih =>
    intro i hi co le h1 h2
    obtain ⟨hk, hin⟩ := ins_of W ha (show i < g.cols by omega)
    have ih := ih (i + 1) (by omega)
    have no : ¬ g.snd wy (8 * a + i) → wX11_drifts_168 Q (wX11_drifts_48 Q Kf (m + 1)) (nI wy) fo (nI a) (nI i) all co le := fun n => by
      unfold wX11_drifts_168
      rw [nI_1]
      refine ih co le ?_ ?_
      · show Al64 co (comF g wy fo (8 * a + i + 1)); unfold comF; rw [if_neg n]; exact h1
      · show Al64 le (leaF g wy fo (8 * a + i + 1)); rw [leaF_succ, if_neg n]; exact h2
    refine ⟨v1, ip_F ?_ (ip_rowTo hw (ip_columnTo hw (ip_isSea W R _ _ ?_)))⟩
    · rw [show (1 : Int32).toNatClampNeg = 1 from rfl, R.cols]
      exact nI_ge (by omega) (by omega)
    rw [find_of W ha (by omega), nI_clamp (by omega)]
    by_cases s0 : g.sea (8 * a + i) = 0
    · rw [bI_F (fun q => by rw [s0] at q; exact absurd q.2 (by decide))]
      exact ip_T rfl (no (fun q => q.1 s0))
    rw [bI_T ⟨nI_m1 hk, (sea_nz W hk).mp s0⟩]
    refine ip_F (by decide) (ip_of a i 4 (by omega) (by omega) (by omega) ?_)
    rw [R.fast _ hk hin]
    rcases W.fast _ hk with f0 | f1
    · rw [f0]
      refine ip_F (by decide) (ip_rowTo hw (ip_columnTo hw (ip_isSea W R _ _ ?_)))
      rcases nxt_cases W hk hw with ⟨f, -⟩ | ⟨c, d, hc1, hd1, hk2, hi2, adj2, er, ec, f⟩
      · have f' : g.find (nI a + drI wy) (nI i + dcI wy) = -1 := by
          have := f; unfold GU.nxt at this
          rw [show (8 * a + i) / 8 = a by omega, show (8 * a + i) % 8 = i by omega] at this; exact this
        rw [bI_F (fun q => q.1 f')]
        exact ip_T' rfl (no (fun q => q.2.2.1 f))
      · rw [show (8 * a + i) / 8 = a by omega] at er
        rw [show (8 * a + i) % 8 = i by omega] at ec
        have f' : g.find (nI a + drI wy) (nI i + dcI wy) = nI (8 * c + d) := by
          have := f; unfold GU.nxt at this
          rw [show (8 * a + i) / 8 = a by omega, show (8 * a + i) % 8 = i by omega] at this; exact this
        rw [f', nI_clamp (by omega)]
        by_cases t0 : g.sea (8 * c + d) = 0
        · rw [bI_F (fun q => by rw [t0] at q; exact absurd q.2 (by decide))]
          refine ip_T' rfl (no (fun q => q.2.2.2 ?_))
          rw [f, nI_clamp (by omega)]; exact t0
        · rw [bI_T ⟨nI_m1 hk2, (sea_nz W hk2).mp t0⟩]
          have hs : g.snd wy (8 * a + i) := ⟨s0, f0, by rw [f]; exact nI_m1 hk2, by rw [f, nI_clamp (by omega)]; exact t0⟩
          refine ip_F' (by decide) (ip_of a i 1 (by omega) (by omega) (by omega) ?_)
          rw [R.level _ hk]
          have ea : (8 : Int32) * nI a + nI i = nI (8 * a + i) := by simp only [ip_lit, pk_mul, nI_add]
          have eb : (8 : Int32) * (nI a + drI wy) + nI i + dcI wy = nI (8 * c + d) := by
            rw [er, Int32.add_assoc, ec]; simp only [ip_lit, pk_mul, nI_add]
          rw [ea, eb, nI_clamp (by omega), nI_clamp (by omega), pk_us]
          refine ⟨vp_in_nI hk (by omega), vp_in_nI hk (by omega), vp_in_nI hk2 (by omega), ?_⟩
          unfold wX11_drifts_168
          rw [nI_1]
          refine ih _ _ ?_ ?_
          · show Al64 _ (comF g wy fo (8 * a + i + 1)); unfold comF; rw [if_pos hs, f, nI_clamp (by omega)]; exact h1.upd
          · show Al64 _ (leaF g wy fo (8 * a + i + 1)); rw [leaF_succ, if_pos hs]; exact h2.upd
    · rw [f1]
      exact ip_T rfl (no (fun q => by have := q.2.1; rw [f1] at this; exact absurd this (by decide)))
theorem snd_skip {g : GU} {wy : Nat} {fo : Int32} (a : Nat) : ∀ m, (∀ k, a ≤ k → k < a + m → g.sea k = 0) → comF g wy fo (a + m) = comF g wy fo a ∧ leaF g wy fo (a + m) = leaF g wy fo a := by
  intro m
  induction m with
  | zero => intro _; exact ⟨rfl, rfl⟩
  | succ m ih =>
    intro h
    have n : ¬ g.snd wy (a + m) := fun q => q.1 (h (a + m) (by omega) (by omega))
    obtain ⟨h1, h2⟩ := ih (fun k h1 h2 => h k h1 (by omega))
    refine ⟨?_, ?_⟩
    · exact (show comF g wy fo (a + m + 1) = comF g wy fo (a + m) by rw [comF, if_neg n]).trans h1
    · show leaF g wy fo (a + m + 1) = _; rw [leaF_succ, if_neg n]; exact h2
theorem m_drift_1 {om : Nat → Option OR} {Q : (Nat → Int32) → (Nat → Int32) → (Nat → Int32) → Prop} {all : Nat → Int32} {g : GU} (W : Wf g) (R : Rg om all g) {wy : Nat} (hw : wy < 4) {fo : Int32} (hf : 0 < fo) (h : ∀ all' co le, OkG om all (g.drf wy fo) all' → Al64 co (comF g wy fo (8 * g.rows)) → Q all' co le) : ∀ (m i : Nat), i + m = g.rows → ∀ co le, Al64 co (comF g wy fo (8 * i)) → Al64 le (leaF g wy fo (8 * i)) → wX11_drifts_35 Q (m + 1) (nI wy) fo (nI i) all co le := by
  have hc := W.c8
  have hr := W.r8
  have v0 := ip_in (x := 0) 0 53700 rfl (by omega) (by omega)
  intro m
  induction m with
  | zero =>
    intro i hi co le h1 h2
    have e : i = g.rows := by omega
    subst e
    refine ⟨v0, ip_T ?_ ⟨65, ?_⟩⟩
    · rw [show (0 : Int32).toNatClampNeg = 0 from rfl, R.rows]
      exact nI_le (Nat.le_refl _) (by omega)
    · refine m_drift_3 W hw hf h1 h2 (fun all' ok => h all' co le ok h1) 64 0 (by omega) all ?_ (fun _ _ => rfl)
      rw [rF_0, rF_0]; exact R
  | succ m ih =>
    intro i hi co le h1 h2
    refine ⟨v0, ip_F ?_ ⟨g.cols + 1, ?_⟩⟩
    · rw [show (0 : Int32).toNatClampNeg = 0 from rfl, R.rows]
      exact nI_ge (by omega) (by omega)
    · refine m_drift_2 W R hw (by omega) (fun co' le' k1 k2 => ?_) g.cols 0 (by omega) co le h1 h2
      have e := snd_skip (g := g) (wy := wy) (fo := fo) (8 * i + g.cols) (8 - g.cols) (fun k h1 h2 => (W.out k (by omega) (fun q => by have := q.2; omega)).1)
      rw [show 8 * i + g.cols + (8 - g.cols) = 8 * (i + 1) by omega] at e
      exact ih (i + 1) (by omega) co' le' (by rw [e.1]; exact k1) (by rw [e.2]; exact k2)
theorem m_drift {om : Nat → Option OR} {Q : (Nat → Int32) → (Nat → Int32) → (Nat → Int32) → Prop} {all co0 le0 : Nat → Int32} {g : GU} (W : Wf g) (R : Rg om all g) {wy f : Nat} (hw : wy < 4) (hf : f ≤ 50) (h : ∀ all' co le, OkG om all (g.drf wy (nI f)) all' → Al64 co (g.arr wy (nI f)) → Q all' co le) : wX11_drifts Q (nI wy) (nI f) all co0 le0 := by
  refine ⟨65, ?_⟩
  have lp : ∀ (m i : Nat), i + m = 64 → wX11_drifts_2 Q (m + 1) (nI wy) (nI f) (nI i) all (rF co0 0 i fun _ => 0) (rF le0 0 i fun _ => 0) := by
    intro m
    induction m with
    | zero =>
      intro i hi
      have e : i = 64 := by omega
      subst e
      refine ip_T (by decide) (ip_split' (fun c => ?_) (fun c => ⟨g.rows + 1, ?_⟩))
      · have n : ¬ (0 : Int32) < nI f := by rw [c]; decide
        unfold GU.drf GU.arr at h
        rw [if_neg n, if_neg n] at h
        exact h all _ _ (OkG.same W R) (fun k hk => rF_in (by omega) (by omega))
      · have p : (0 : Int32) < nI f := by
          rw [show (0 : Int32) = nI 0 from rfl, nI_ltI (by omega) (by omega)]
          by_cases z : f = 0
          · exact absurd (by rw [z]; rfl) c
          · omega
        unfold GU.arr at h
        rw [if_pos p] at h
        exact m_drift_1 W R hw p h g.rows 0 (by omega) _ _ (fun k hk => rF_in (by omega) (by omega)) (fun k hk => (rF_in (by omega) (by omega)).trans (by unfold leaF; rw [if_neg (fun q => by have := q.1; omega)]))
    | succ m ih =>
      intro i hi
      have v := vp_in_nI (show i < 64 by omega) (by omega)
      refine ip_F (nI_ge (a := i) (b := 64) (by omega) (by omega)) ⟨v, v, ?_⟩
      rw [nI_clamp (by omega), nI_1, rF_succ0 (f := co0) (F := fun _ => (0 : Int32)) rfl, rF_succ0 (f := le0) (F := fun _ => (0 : Int32)) rfl]
      exact ih (i + 1) (by omega)
  have := lp 64 0 (by omega)
  rw [rF_0, rF_0] at this
  exact this
