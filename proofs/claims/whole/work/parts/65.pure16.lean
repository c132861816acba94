/-! PURE LEVEL 15: the steps of a line in the reference -/
def PileR : List Bool → (Nat → Int32) → Prop
  | [], _ => True
  | b :: r, p => p r.length = bB b ∧ PileR r p
theorem PileR.upd {l : List Bool} : ∀ {p : Nat → Int32} {k : Nat} {v : Int32}, PileR l p → l.length ≤ k → PileR l (upd p k v) := by
  induction l with
  | nil => intro p k v _ _; exact trivial
  | cons b r ih =>
    intro p k v h hk
    have hk' : r.length + 1 ≤ k := hk
    exact ⟨(pk_un (by omega)).trans h.1, ih h.2 (by omega)⟩
theorem lnA (s k d : Nat) (x : Int32) (hx : x = nI d) : (3460 : Int32) + 80 * nI s + 4 * nI k + x = nI (3460 + 80 * s + (4 * k + d)) := by
  subst hx; simp only [ip_lit, pk_mul, nI_add, Nat.add_assoc]
theorem lnA0 (s k : Nat) : (3460 : Int32) + 80 * nI s + 4 * nI k = nI (3460 + 80 * s + 4 * k) := by
  simp only [ip_lit, pk_mul, nI_add, Nat.add_assoc]
theorem acA0 (s i : Nat) : (4100 : Int32) + 780 * nI s + 3 * nI i = nI (4100 + 780 * s + 3 * i) := by
  simp only [ip_lit, pk_mul, nI_add, Nat.add_assoc]
theorem acA (s i d : Nat) (x : Int32) (hx : x = nI d) : nI (4100 + 780 * s + 3 * i) + x = nI (4100 + 780 * s + (3 * i + d)) := by
  subst hx; simp only [nI_add, Nat.add_assoc]
theorem m_push {Q : Int32 → (Nat → Int32) → Prop} {Kf : Int32 → Int32 → Int32 → Int32 → (Nat → Int32) → (Nat → Int32) → Prop} {all pile : Nat → Int32} {x1 x2 : Int32} {i : Nat} {l : List Bool} (b : Bool) (z : Int32) (hz : z = bB b) (hl : l.length < 300) (P : PileR l pile) (h : ∀ pile', PileR (b :: l) pile' → Kf x1 x2 (nI (l.length + 1)) (nI (i + 1)) all pile') : wX11_holds_304 Q Kf x1 x2 (nI l.length) (nI i) (nI l.length) z all pile := by
  unfold wX11_holds_304 wX11_holds_308
  subst hz
  rw [nI_1, nI_1, nI_clamp (by omega), ip_nb (bB_01 b)]
  exact ⟨vp_in_nI hl (by omega), h _ ⟨pk_us, P.upd (Nat.le_refl _)⟩⟩
theorem m_holds_loop {Q : Int32 → (Nat → Int32) → Prop} {om : Nat → Option OR} {all : Nat → Int32} {g : GU} (W : Wf g) (R : Rg om all g) {s k : Nat} {r : OR} (T : TxR r (fun k => all (3460 + 80 * s + k)) (fun k => all (4100 + 780 * s + k))) (hs : s < g.size) (hk : k < oL r) : ∀ (m i : Nat) (l : List Bool) (pile : Nat → Int32), i + m = oT r k → l.length ≤ 20 → depOk (oS r) m i l.length = some 1 → PileR l pile → (∀ pile', Q (bB ((runL g s (oS r) m i l).headD false)) pile') → wX11_holds_30 Q (m + 1) (nI s) (nI k) (nI l.length) (nI i) all pile := by
  have h8 := W.s8
  have hl := T.ok.l
  have hn := T.ok.n
  obtain ⟨e1, e2, e3⟩ := T.ok.e k hk
  have v1 : vp_in ((3460 : Int32) + 80 * nI s + 4 * nI k + 1) 53700 := by rw [lnA s k 1 1 rfl]; exact vp_in_nI (by omega) (by omega)
  have til : all ((3460 : Int32) + 80 * nI s + 4 * nI k + 1).toNatClampNeg = nI (oT r k) := by
    rw [lnA s k 1 1 rfl, nI_clamp (by omega)]; exact T.til k hk
  intro m
  induction m with
  | zero =>
    intro i l pile hi hl2 hd P h
    refine ⟨v1, ip_T (by rw [til]; exact nI_le (by omega) (by omega)) ?_⟩
    unfold depOk at hd
    have hd1 : l.length = 1 := Option.some.inj hd
    match l, hd1 with
    | [b], _ =>
      have p0 : pile (0 : Int32).toNatClampNeg = bB b := P.1
      rw [p0]
      exact ⟨ip_in 0 _ rfl (by omega) (by omega), ip_nar (bB_01 b), h pile⟩
  | succ m ih =>
    intro i l pile hi hl2 hd P h
    have hi' : i < oN r := by omega
    refine ⟨v1, ip_F (by rw [til]; exact nI_ge (by omega) (by omega)) ?_⟩
    rw [acA0, acA s i 1 1 rfl, acA s i 2 2 rfl, nI_clamp (by omega), nI_clamp (by omega), nI_clamp (by omega)]
    have v0 := vp_in_nI (show 4100 + 780 * s + 3 * i < 53700 by omega) (by omega)
    have va1 := vp_in_nI (show 4100 + 780 * s + (3 * i + 1) < 53700 by omega) (by omega)
    have va2 := vp_in_nI (show 4100 + 780 * s + (3 * i + 2) < 53700 by omega) (by omega)
    refine ⟨v0, ?_⟩
    have st : StepR (oS r i) (all (4100 + 780 * s + 3 * i)) (all (4100 + 780 * s + (3 * i + 1))) (all (4100 + 780 * s + (3 * i + 2))) := T.st i hi'
    unfold depOk at hd
    unfold runL at h
    have two : ∀ (x7 : Int32) (f : Bool → Bool → Bool), ((x7 = 32 ∧ ∀ a b, f a b = (a && b)) ∨ (¬ x7 = 32 ∧ ∀ a b, f a b = (a || b))) → (if 2 ≤ l.length then depOk (oS r) m (i + 1) (l.length - 1) else none) = some 1 → (∀ a b q, l = b :: a :: q → ∀ pile', Q (bB ((runL g s (oS r) m (i + 1) (f a b :: q)).headD false)) pile') → wX11_holds_129 Q (wX11_holds_30 Q (m + 1)) (nI s) (nI k) (nI l.length) (nI i) x7 all pile := by
      intro x7 f hx hd h
      match l, P, hl2 with
      | [], _, _ => rw [if_neg (by simp)] at hd; exact absurd hd (by simp)
      | [b], _, _ => rw [if_neg (by simp)] at hd; exact absurd hd (by simp)
      | b :: a :: q, P, hl2 =>
        rw [if_pos (by simp)] at hd
        have hq : q.length + 1 + 1 ≤ 20 := hl2
        have pb : pile (q.length + 1) = bB b := P.1
        have pa : pile q.length = bB a := P.2.1
        have t1 : nI (b :: a :: q).length + -1 = nI (q.length + 1) := pk_m1 _
        have t2 : nI (q.length + 1) - 1 = nI q.length := nI_pred _
        have vA := vp_in_nI (show q.length < 300 by omega) (by omega)
        have vB := vp_in_nI (show q.length + 1 < 300 by omega) (by omega)
        have fin : ∀ z : Int32, z = bB (f a b) → wX11_holds_204 Q (wX11_holds_30 Q (m + 1)) (nI s) (nI k) (nI (q.length + 1)) (nI i) (nI q.length) z all pile := by
          intro z hz
          unfold wX11_holds_204 wX11_holds_308
          subst hz
          rw [nI_1, nI_clamp (by omega), ip_nb (bB_01 _)]
          exact ⟨vA, ih (i + 1) (f a b :: q) _ (by omega) (by show q.length + 1 ≤ 20; omega) hd ⟨pk_us, P.2.2.upd (Nat.le_refl _)⟩ (h a b q rfl)⟩
        unfold wX11_holds_129 wX11_holds_173 wX11_holds_199
        rw [t1, t2, nI_clamp (by omega), nI_clamp (by omega), pa, pb]
        refine ip_split' (fun c => ⟨vA, ?_⟩) (fun c => ⟨vA, ?_⟩)
        · have hf := (hx.resolve_right (fun q => q.1 c)).2
          refine ip_split (fun a0 => fin 0 ?_) (fun a1 => ⟨vB, ip_split (fun b0 => fin 0 ?_) (fun b1 => fin 1 ?_)⟩)
          · rw [hf]; cases a <;> cases b <;> first | rfl | exact absurd a0 (by decide)
          · rw [hf]; cases a <;> cases b <;> first | rfl | exact absurd b0 (by decide)
          · rw [hf]; cases a <;> cases b <;> first | rfl | exact absurd rfl a1 | exact absurd rfl b1
        · have hf := (hx.resolve_left (fun q => c q.1)).2
          refine ip_split' (fun a0 => ⟨vB, ip_split (fun b0 => fin 0 ?_) (fun b1 => fin 1 ?_)⟩) (fun a1 => fin 1 ?_)
          · rw [hf]; cases a <;> cases b <;> first | rfl | exact absurd a0 (by decide) | exact absurd b0 (by decide)
          · rw [hf]; cases a <;> cases b <;> first | rfl | exact absurd a0 (by decide) | exact absurd rfl b1
          · rw [hf]; cases a <;> cases b <;> first | rfl | exact absurd rfl a1
    rcases st with ⟨ea, eb, -, -⟩ | ⟨ea, eb, -, -⟩ | ⟨ea, eb, -, -⟩ | ⟨w, sg, n, hw, hsg, hn9, ea, eb, ec, ed⟩
    · rw [ea] at hd h
      rw [eb]
      rw [if_pos rfl] at hd
      match l, P, hl2 with
      | [], _, _ => rw [if_neg (by simp)] at hd; exact absurd hd (by simp)
      | b :: q, P, hl2 =>
        rw [if_pos (by simp)] at hd
        have hq : q.length + 1 ≤ 20 := hl2
        have pb : pile q.length = bB b := P.1
        have t2 : nI (b :: q).length - 1 = nI q.length := nI_pred _
        have vA := vp_in_nI (show q.length < 300 by omega) (by omega)
        have fin : ∀ z : Int32, z = bB (!b) → wX11_holds_111 Q (wX11_holds_30 Q (m + 1)) (nI s) (nI k) (nI (b :: q).length) (nI i) (nI q.length) z all pile := by
          intro z hz
          unfold wX11_holds_111 wX11_holds_308
          subst hz
          rw [nI_1, nI_clamp (by omega), ip_nb (bB_01 _)]
          exact ⟨vA, ih (i + 1) ((!b) :: q) _ (by omega) hl2 hd ⟨pk_us, P.2.upd (Nat.le_refl _)⟩ h⟩
        refine ip_T' rfl ?_
        rw [t2, nI_clamp (by omega), pb]
        refine ⟨vA, ip_split' (fun c => fin 1 ?_) (fun c => fin 0 ?_)⟩
        · cases b <;> first | rfl | exact absurd c (by decide)
        · cases b <;> first | rfl | exact absurd rfl c
    · rw [ea] at hd h
      rw [eb]
      rw [if_neg (by decide), if_pos (Or.inl rfl)] at hd
      refine ip_F' (by decide) (ip_T rfl (two 32 (fun a b => a && b) (Or.inl ⟨rfl, fun _ _ => rfl⟩) hd (fun a b q e => ?_)))
      subst e; exact h
    · rw [ea] at hd h
      rw [eb]
      rw [if_neg (by decide), if_pos (Or.inr rfl)] at hd
      refine ip_F' (by decide) (ip_F (by decide) (ip_T' rfl (two 31 (fun a b => a || b) (Or.inr ⟨by decide, fun _ _ => rfl⟩) hd (fun a b q e => ?_))))
      subst e; exact h
    · rw [ea] at hd h
      have nn : ∀ z : Int32, z < 0 → ¬ nI (w * 4194304 + sg * 16384 + n) = z := fun z hz q => by
        rw [← q] at hz; exact nI_pos (by omega) hz
      rw [if_neg (nn (-1) (by decide)), if_neg (fun q => q.elim (nn (-2) (by decide)) (nn (-3) (by decide)))] at hd
      by_cases hl20 : l.length < 20
      · rw [if_pos hl20] at hd
        rw [stepL_cmp hw (by omega) (by omega)] at h
        rw [eb, ec, ed]
        have wr : wordR w ≤ 12 := by unfold wordR; split <;> (try split) <;> (try split) <;> (try split) <;> omega
        have wn : ∀ z : Nat, 13 ≤ z → z ≤ 40 → ¬ nI (wordR w) = nI z := fun z h1 h2 q => by
          rw [nI_eq (by omega) (by omega)] at q; omega
        refine ip_F' (wn 33 (by omega) (by omega)) (ip_F (wn 32 (by omega) (by omega)) (ip_F' (wn 31 (by omega) (by omega)) (ip_asked W R hs hw ⟨va2, va1, ?_⟩)))
        have fin : ∀ z : Int32, z = bB (cmpB (g.see s w) sg n) → wX11_holds_304 Q (wX11_holds_30 Q (m + 1)) (nI s) (nI k) (nI l.length) (nI i) (nI l.length) z all pile := fun z hz =>
          m_push _ z hz (by omega) P (fun pile' P' => ih (i + 1) (cmpB (g.see s w) sg n :: l) pile' (by omega) (by show l.length + 1 ≤ 20; omega) hd P' h)
        unfold cmpB at fin
        rcases hsg with e | e | e <;> subst e
        · refine ip_T' rfl (ip_split' (fun c => fin 1 ?_) (fun c => fin 0 ?_))
          · simp [bB, c]
          · simp [bB, c]
        · refine ip_F' (by decide) ⟨va1, ip_T' rfl (ip_split (fun c => fin 0 ?_) (fun c => fin 1 ?_))⟩
          · rw [if_pos rfl]; unfold bB; rw [if_neg (by simp only [decide_eq_true_eq]; exact fun q => q c)]
          · rw [if_pos rfl]; unfold bB; rw [if_pos (decide_eq_true c)]
        · refine ip_F' (by decide) ⟨va1, ip_F' (by decide) (ip_split (fun c => fin 0 ?_) (fun c => fin 1 ?_))⟩
          · rw [if_neg (by decide), if_pos rfl]; unfold bB; rw [if_neg (by simp only [decide_eq_true_eq]; exact fun q => q c)]
          · rw [if_neg (by decide), if_pos rfl]; unfold bB; rw [if_pos (decide_eq_true c)]
      · rw [if_neg hl20] at hd; exact absurd hd (by simp)
theorem m_holds {Q : Int32 → (Nat → Int32) → Prop} {om : Nat → Option OR} {all pile : Nat → Int32} {g : GU} (W : Wf g) (R : Rg om all g) {s k : Nat} {r : OR} (T : TxR r (fun k => all (3460 + 80 * s + k)) (fun k => all (4100 + 780 * s + k))) (hs : s < g.size) (hk : k < oL r) (h : ∀ pile', Q (bB (g.holds s r k)) pile') : wX11_holds Q (nI s) (nI k) all pile := by
  have h8 := W.s8
  have hl := T.ok.l
  have hn := T.ok.n
  obtain ⟨e1, e2, e3⟩ := T.ok.e k hk
  have fr : all (3460 + 80 * s + 4 * k) = if oF r k = oT r k then -1 else nI (oF r k) := T.frm k hk
  unfold wX11_holds
  rw [lnA0, nI_clamp (by omega), fr]
  refine ⟨vp_in_nI (by omega) (by omega), ?_⟩
  unfold GU.holds at h
  by_cases c : oF r k = oT r k
  · rw [if_pos c]
    rw [if_pos c] at h
    exact ip_F (by decide) (h pile)
  · rw [if_neg c]
    rw [if_neg c] at h
    exact ip_T (nI_pos' (by omega)) ⟨oT r k - oF r k + 1, m_holds_loop W R T hs hk (oT r k - oF r k) (oF r k) [] pile (by omega) (by simp) (T.ok.d k hk (by omega)) trivial h⟩
