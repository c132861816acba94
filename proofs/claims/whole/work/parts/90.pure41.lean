/-! PURE LEVEL 40: all lines of the reference; what a text without a fault is -/
def AcS (ss : List Int32) (ra : Nat → Int32) : Prop := ∀ k, k < ss.length → StepR (ss.getD k 0) (ra (3 * k)) (ra (3 * k + 1)) (ra (3 * k + 2))
theorem AcS.add {ss l : List Int32} {ra ra' : Nat → Int32} (h : AcS ss ra) (A : AcR ss.length l ra ra') : AcS (ss ++ l) ra' := by
  intro k hk
  rw [List.length_append] at hk
  by_cases c : k < ss.length
  · rw [A.1 _ (by omega), A.1 _ (by omega), A.1 _ (by omega)]
    have e : (ss ++ l).getD k 0 = ss.getD k 0 := by simp [List.getD_eq_getElem?_getD, List.getElem?_append_left c]
    rw [e]
    exact h k c
  · have e := A.2 (k - ss.length) (by omega)
    rw [show ss.length + (k - ss.length) = k by omega] at e
    have e' : (ss ++ l).getD k 0 = l.getD (k - ss.length) 0 := by simp [List.getD_eq_getElem?_getD, List.getElem?_append_right (Nat.le_of_not_lt c)]
    rw [e']
    exact e
def lnF (ls : List (Nat × Nat × Nat)) (k : Nat) : Nat := if k = 0 then 0 else (ls.getD (k - 1) (0, 0, 0)).1
def lnT (ls : List (Nat × Nat × Nat)) (k : Nat) : Nat := (ls.getD k (0, 0, 0)).1
theorem lnF_last {ls : List (Nat × Nat × Nat)} {x : Nat × Nat × Nat} {k : Nat} (h : k ≤ ls.length) : lnF (ls ++ [x]) k = lnF ls k := by
  unfold lnF
  by_cases c : k = 0
  · rw [if_pos c, if_pos c]
  · rw [if_neg c, if_neg c, getD_app1 (by omega)]
/-- the lines that were read: where their steps stand -/
def LsOk (ss : List Int32) (ls : List (Nat × Nat × Nat)) : Prop := (∀ k, k < ls.length → lnF ls k ≤ lnT ls k ∧ lnT ls k ≤ ss.length ∧ (lnF ls k < lnT ls k → depOk (fun j => ss.getD j 0) (lnT ls k - lnF ls k) (lnF ls k) 0 = some 1) ∧ isActN (ls.getD k (0, 0, 0)).2.1 ∧ (ls.getD k (0, 0, 0)).2.2 < 10000) ∧ lnF ls ls.length = ss.length
theorem depOk_congr {f h : Nat → Int32} : ∀ (m i d : Nat), (∀ k, i ≤ k → k < i + m → f k = h k) → depOk f m i d = depOk h m i d := by
  intro m
  induction m with
  | zero => intro i d _; rfl
  | succ m ih =>
    intro i d e
    unfold depOk
    rw [e i (by omega) (by omega), ih (i + 1) d (fun k a c => e k (by omega) (by omega)), ih (i + 1) (d - 1) (fun k a c => e k (by omega) (by omega)), ih (i + 1) (d + 1) (fun k a c => e k (by omega) (by omega))]
theorem depOk_list {f : Nat → Int32} : ∀ (l : List Int32) (i d : Nat), (∀ k, k < l.length → f (i + k) = l.getD k 0) → depOk f l.length i d = depL l d := by
  intro l
  induction l with
  | nil => intro i d _; rfl
  | cons x r ih =>
    intro i d e
    have e0 : f i = x := e 0 (Nat.succ_pos _)
    have er : ∀ d', depOk f r.length (i + 1) d' = depL r d' := fun d' => ih (i + 1) d' (fun k hk => by
      have := e (k + 1) (Nat.succ_lt_succ hk)
      rw [show i + (k + 1) = i + 1 + k by omega] at this
      exact this)
    show depOk f (r.length + 1) i d = depL (x :: r) d
    unfold depOk depL
    rw [e0, er, er, er]
theorem LsOk.add {ss l : List Int32} {ls : List (Nat × Nat × Nat)} {w v : Nat} (h : LsOk ss ls) (hw : isActN w) (hv : v < 10000) (hl : l = [] ∨ depL l 0 = some 1) : LsOk (ss ++ l) (ls ++ [(ss.length + l.length, w, v)]) := by
  obtain ⟨h1, h2⟩ := h
  have eT : lnT (ls ++ [(ss.length + l.length, w, v)]) ls.length = ss.length + l.length := by unfold lnT; rw [getD_app2]
  refine ⟨fun k hk => ?_, ?_⟩
  · rw [List.length_append] at hk
    have hk' : k < ls.length + 1 := hk
    rw [lnF_last (by omega)]
    by_cases c : k = ls.length
    · subst c
      rw [eT, h2, getD_app2]
      refine ⟨by omega, by rw [List.length_append]; omega, fun q => ?_, hw, hv⟩
      have ne : l.length ≠ 0 := by omega
      rw [show ss.length + l.length - ss.length = l.length by omega]
      rw [depOk_list l ss.length 0 (fun k hk => by simp [List.getD_eq_getElem?_getD, List.getElem?_append_right (Nat.le_add_right ss.length k)])]
      rcases hl with q2 | q2
      · rw [q2] at ne; exact absurd rfl ne
      · exact q2
    · have e : (ls ++ [(ss.length + l.length, w, v)]).getD k (0, 0, 0) = ls.getD k (0, 0, 0) := getD_app1 (by omega)
      have e2 : lnT (ls ++ [(ss.length + l.length, w, v)]) k = lnT ls k := by unfold lnT; rw [e]
      rw [e2, e]
      obtain ⟨b1, b2, b3, b4, b5⟩ := h1 k (by omega)
      refine ⟨b1, by rw [List.length_append]; omega, fun q => ?_, b4, b5⟩
      rw [depOk_congr (h := fun j => ss.getD j 0) _ _ _ (fun j a d => by
        have : j < ss.length := by omega
        simp [List.getD_eq_getElem?_getD, List.getElem?_append_left this])]
      exact b3 q
  · rw [List.length_append]
    show lnF (ls ++ [(ss.length + l.length, w, v)]) (ls.length + 1) = _
    unfold lnF
    rw [if_neg (by omega), show ls.length + 1 - 1 = ls.length by omega, getD_app2, List.length_append]
def LnM (ls : List (Nat × Nat × Nat)) (rl : Nat → Int32) : Prop := ∀ k, k < ls.length → k < 20 → rl (4 * k) = (if lnF ls k = lnT ls k then -1 else nI (lnF ls k)) ∧ rl (4 * k + 1) = nI (lnT ls k) ∧ rl (4 * k + 2) = nI (wordR (ls.getD k (0, 0, 0)).2.1) ∧ rl (4 * k + 3) = nI (ls.getD k (0, 0, 0)).2.2
theorem LnM.add {ls : List (Nat × Nat × Nat)} {rl : Nat → Int32} {e w v a : Nat} (h : LnM ls rl) (ea : lnF ls ls.length = a) (ha : a ≤ e) {x : Int32} (hx : x = if a = e then -1 else nI a) : LnM (ls ++ [(e, w, v)]) (up4 ls.length rl x (nI e) (nI (wordR w)) (nI v)) := by
  intro k hk h20
  rw [List.length_append] at hk
  have hk' : k < ls.length + 1 := hk
  unfold up4
  rw [lnF_last (by omega)]
  by_cases c : k = ls.length
  · subst c
    rw [if_pos h20]
    have eT : lnT (ls ++ [(e, w, v)]) ls.length = e := by unfold lnT; rw [getD_app2]
    rw [eT, ea, getD_app2]
    refine ⟨?_, ?_, ?_, ?_⟩
    · rw [pk_un (by omega), pk_un (by omega), pk_un (by omega), pk_us, hx]
    · rw [pk_un (by omega), pk_un (by omega), pk_us]
    · rw [pk_un (by omega), pk_us]
    · rw [pk_us]
  · have e2 : (ls ++ [(e, w, v)]).getD k (0, 0, 0) = ls.getD k (0, 0, 0) := getD_app1 (by omega)
    have e3 : lnT (ls ++ [(e, w, v)]) k = lnT ls k := by unfold lnT; rw [e2]
    rw [e3, e2]
    by_cases d : ls.length < 20
    · rw [if_pos d]
      rw [pk_un (by omega), pk_un (by omega), pk_un (by omega), pk_un (by omega), pk_un (by omega), pk_un (by omega), pk_un (by omega), pk_un (by omega), pk_un (by omega), pk_un (by omega), pk_un (by omega), pk_un (by omega), pk_un (by omega), pk_un (by omega), pk_un (by omega), pk_un (by omega)]
      exact h k (by omega) h20
    · rw [if_neg d]
      exact h k (by omega) h20
def FP (al al' : Nat → Int32) (f p : Int32) : Prop := (∀ i, i ≠ 10 → i ≠ 11 → al' i = al i) ∧ al' 10 = f ∧ al' 11 = p
def alS (b : Nat → Nat) (L : Nat) (al : Nat → Int32) (sp : Option Nat) : Nat → Int32 := match sp with | none => al | some p => upd (upd al 10 2) 11 (nI (PLo b L p))
theorem alS_un {b : Nat → Nat} {L : Nat} {al : Nat → Int32} {sp : Option Nat} {i : Nat} (h1 : i ≠ 10) (h2 : i ≠ 11) : alS b L al sp i = al i := by
  cases sp with
  | none => rfl
  | some p => show upd (upd al 10 2) 11 (nI (PLo b L p)) i = al i; rw [pk_un h2, pk_un h1]
def keA (al rl ra : Nat → Int32) (s m : Nat) : Nat → Int32 := upd (rF (rF al (3460 + 80 * s) 80 (fun i => rl (i - (3460 + 80 * s)))) (4100 + 780 * s) 780 (fun i => ra (i - (4100 + 780 * s)))) (360 + 12 * s + 8) (nI m)
theorem m_keepAll {Q : Int32 → Int32 → Int32 → Int32 → Int32 → Int32 → Int32 → Int32 → Int32 → Int32 → Int32 → Int32 → (Nat → Int32) → (Nat → Int32) → (Nat → Int32) → Prop} {s m : Nat} {sz nx wh to nu sg wd wr op ac : Int32} {ra al rl : Nat → Int32} (hs : s < 8) (h : Q (nI m) sz nx wh to nu sg wd wr op (nI m) ac ra (keA al rl ra s m) rl) : ∃ j_, wX11_orders_105 Q j_ (nI s) 0 sz nx wh to nu sg wd wr op (nI m) ac ra al rl := by
  refine ⟨81, ?_⟩
  have lp2 : ∀ (al1 : Nat → Int32) (n i : Nat), Q (nI m) sz nx wh to nu sg wd wr op (nI m) ac ra (upd (rF al1 (4100 + 780 * s) 780 (fun i => ra (i - (4100 + 780 * s)))) (360 + 12 * s + 8) (nI m)) rl → i + n = 780 → wX11_orders_140 Q (n + 1) (nI s) (nI i) sz nx wh to nu sg wd wr op (nI m) ac ra (rF al1 (4100 + 780 * s) i (fun i => ra (i - (4100 + 780 * s)))) rl := by
    intro al1 n
    induction n with
    | zero =>
      intro i hq hi
      have e : i = 780 := by omega
      subst e
      exact ip_T (by decide) (ip_ships s 8 hs (by omega) hq)
    | succ n ih =>
      intro i hq hi
      refine ip_F (nI_ge (a := i) (b := 780) (by omega) (by omega)) ⟨vp_in_nI (by omega) (by omega), ?_⟩
      rw [show (4100 : Int32) + 780 * nI s + nI i = nI (4100 + 780 * s + i) from by simp only [ip_lit, pk_mul, nI_add], nI_clamp (by omega), nI_clamp (by omega), nI_1, rF_succ (F := fun i => ra (i - (4100 + 780 * s))) (by rw [show 4100 + 780 * s + i - (4100 + 780 * s) = i by omega])]
      exact ⟨vp_in_nI (by omega) (by omega), ih (i + 1) hq (by omega)⟩
  have lp1 : ∀ (n i : Nat), i + n = 80 → wX11_orders_105 Q (n + 1) (nI s) (nI i) sz nx wh to nu sg wd wr op (nI m) ac ra (rF al (3460 + 80 * s) i (fun i => rl (i - (3460 + 80 * s)))) rl := by
    intro n
    induction n with
    | zero =>
      intro i hi
      have e : i = 80 := by omega
      subst e
      have key := lp2 (rF al (3460 + 80 * s) 80 (fun i => rl (i - (3460 + 80 * s)))) 780 0 h (by omega)
      rw [rF_0] at key
      exact ip_T (by decide) ⟨781, key⟩
    | succ n ih =>
      intro i hi
      refine ip_F (nI_ge (a := i) (b := 80) (by omega) (by omega)) ⟨vp_in_nI (by omega) (by omega), ?_⟩
      rw [show (3460 : Int32) + 80 * nI s + nI i = nI (3460 + 80 * s + i) from by simp only [ip_lit, pk_mul, nI_add], nI_clamp (by omega), nI_clamp (by omega), nI_1, rF_succ (F := fun i => rl (i - (3460 + 80 * s))) (by rw [show 3460 + 80 * s + i - (3460 + 80 * s) = i by omega])]
      exact ⟨vp_in_nI (by omega) (by omega), ih (i + 1) (by omega)⟩
  have key := lp1 80 0 (by omega)
  rw [rF_0] at key
  exact key
theorem m_read_loop {Q : Int32 → Int32 → Int32 → Int32 → Int32 → Int32 → Int32 → Int32 → Int32 → Int32 → Int32 → Int32 → (Nat → Int32) → (Nat → Int32) → (Nat → Int32) → Prop} {b : Nat → Nat} {L n s : Nat} {al : Nat → Int32} {X : RD} (hs : s < 8) (H : BY b L (fun p => al (10340 + p))) (En : Ed n (TKo b L)) (hv : ∀ j, VLo b L j < 10000) (htk : ∀ j, TKo b L j < 1000) (ha10 : al 10 = 0)
    (h0 : X.1 = 0 → X.2.2.2.length ≤ 20 → X.2.2.1.length ≤ 200 → LsOk X.2.2.1 X.2.2.2 → ∀ nx wh to nu sg wd op ra rl, AcS X.2.2.1 ra → LnM X.2.2.2 rl → Q (nI X.2.2.2.length) (nI L) nx wh to nu sg wd 0 op (nI X.2.2.2.length) (nI X.2.2.1.length) ra (keA al rl ra s X.2.2.2.length) rl)
    (h1 : X.1 = 1 → ∀ nx wh to nu sg wd op ln ac ra al' rl, FP al al' 1 (nI (PLo b L X.2.1)) → Q (-1) (nI L) nx wh to nu sg wd 1 op ln ac ra al' rl)
    (h2 : X.1 = 2 → ∀ nx wh to nu sg wd op ln ac ra al' rl, FP al al' 2 (nI (PLo b L X.2.1)) → Q (-1) (nI L) nx wh to nu sg wd 0 op ln ac ra al' rl) : ∀ (f i : Nat) (ss : List Int32) (ls : List (Nat × Nat × Nat)) (sp : Option Nat) (ra rl : Nat → Int32) (nx wh to nu sg wd op : Int32), n < i + f → i ≤ n → ls.length ≤ i → 2 * ss.length ≤ PLo b L i → RT b L i nx wh to nu sg wd → AcS ss ra → LnM ls rl → LsOk ss ls → ((sp = none ∧ ls.length ≤ 20) ∨ (¬ sp = none ∧ 20 < ls.length)) → rdP (TKo b L) (VLo b L) f i ss ls sp = X → wX11_orders_70 Q (f + 1) (nI s) (nI L) nx wh to nu sg wd 0 op (nI ls.length) (nI ss.length) ra (alS b L al sp) rl := by
  have hL := H.1
  have hn := En.1
  have v10 := ip_in (x := 10) 10 53700 rfl (by omega) (by omega)
  have v11 := ip_in (x := 11) 11 53700 rfl (by omega) (by omega)
  have Hs : ∀ sp, BY b L (fun p => alS b L al sp (10340 + p)) := fun sp => ⟨hL, fun p hp => by
    have := H.2 p hp
    show alS b L al sp (10340 + p) = nI (b p) ∧ b p < 256
    rw [alS_un (by omega) (by omega)]; exact this⟩
  intro f
  induction f with
  | zero => intro i ss ls sp ra rl nx wh to nu sg wd op a1 a2; omega
  | succ f ih =>
    intro i ss ls sp ra rl nx wh to nu sg wd op a1 a2 a3 a4 R A LM LO hsp eX
    rw [rdP_s] at eX
    refine ip_T' rfl ?_
    have pli := (PL_le (b := b) (L := L) (i := i)).2
    have fin : TKo b L i = 257 → wX11_orders_91 Q (nI s) (nI L) nx wh to nu sg wd 0 op (nI ls.length) (nI ss.length) ra (alS b L al sp) rl := by
      intro e
      rw [if_pos e] at eX
      unfold wX11_orders_91
      refine ⟨v10, ?_⟩
      rw [show (10 : Int32).toNatClampNeg = 10 from rfl]
      cases sp with
      | none =>
        have eX' : ((0, 0, ss, ls) : RD) = X := eX
        subst eX'
        have hl20 : ls.length ≤ 20 := by
          rcases hsp with ⟨-, q⟩ | ⟨q, -⟩
          · exact q
          · exact absurd rfl q
        refine ip_T ha10 (m_keepAll hs ?_)
        exact h0 rfl hl20 (by show ss.length ≤ 200; omega) LO nx wh to nu sg wd op ra rl A LM
      | some p =>
        have eX' : ((2, p, ss, ls) : RD) = X := eX
        subst eX'
        have e10 : alS b L al (some p) 10 = 2 := by show upd (upd al 10 2) 11 (nI (PLo b L p)) 10 = 2; rw [pk_un (by omega), pk_us]
        rw [e10]
        exact ip_F (by decide) (h2 rfl nx wh to nu sg wd op _ _ ra _ rl ⟨fun i h1 h2 => alS_un h1 h2, e10, by show upd (upd al 10 2) 11 (nI (PLo b L p)) 11 = _; rw [pk_us]⟩)
    have line : ¬ TKo b L i = 257 → wX11_aLine (fun nx_14 wh_15 to_16 nu_17 sg_18 wd_19 wr_20 op_21 ln_22 ac_23 ra_24 al_25 rl_26 => (wX11_orders_70 Q (f + 1) (nI s) (nI L) nx_14 wh_15 to_16 nu_17 sg_18 wd_19 wr_20 op_21 ln_22 ac_23 ra_24 al_25 rl_26)) (nI L) nx wh to nu sg wd 0 op (nI ls.length) (nI ss.length) ra (alS b L al sp) rl := by
      intro c
      rw [if_neg c] at eX
      have l1 := En.lt a2 c
      obtain ⟨p1, p2, p3⟩ := ln_pg En hv htk (i := i) a2
      have body : ∀ (x1 : Int32) (sp' : Option Nat), ((x1 = 0 ∧ ls.length < 20) ∨ (¬ x1 = 0 ∧ ¬ ls.length < 20)) → sp' = (if ls.length = 20 then some i else sp) → wX11_aLine_48 (fun nx_14 wh_15 to_16 nu_17 sg_18 wd_19 wr_20 op_21 ln_22 ac_23 ra_24 al_25 rl_26 => (wX11_orders_70 Q (f + 1) (nI s) (nI L) nx_14 wh_15 to_16 nu_17 sg_18 wd_19 wr_20 op_21 ln_22 ac_23 ra_24 al_25 rl_26)) x1 (nI L) nx wh to nu sg wd 0 op (nI ls.length) (nI ss.length) ra (alS b L al sp') rl := by
        intro x1 sp' hx esp
        rw [← esp] at eX
        refine m_line (Hs sp') En hv htk a2 (by omega) a4 hx R (fun e nx2 wh2 to2 nu2 sg2 wd2 op2 ra2 R2 A2 B2 => ?_) (fun e nx2 wh2 to2 nu2 sg2 wd2 op2 ln2 ac2 ra2 rl2 => ?_)
        · rw [if_pos e] at eX
          obtain ⟨p4, p5, p6, p7, p8⟩ := p3 e
          unfold Bd at B2
          have el : ss.length + (lnP (TKo b L) (VLo b L) i).2.2.1.length = (ss ++ (lnP (TKo b L) (VLo b L) i).2.2.1).length := by rw [List.length_append]
          have el2 : ls.length + 1 = (ls ++ [(ss.length + (lnP (TKo b L) (VLo b L) i).2.2.1.length, (lnP (TKo b L) (VLo b L) i).2.2.2.1, (lnP (TKo b L) (VLo b L) i).2.2.2.2)]).length := by rw [List.length_append]; rfl
          have LM2 := LM.add (e := ss.length + (lnP (TKo b L) (VLo b L) i).2.2.1.length) (w := (lnP (TKo b L) (VLo b L) i).2.2.2.1) (v := (lnP (TKo b L) (VLo b L) i).2.2.2.2) LO.2 (by omega) (x := if (lnP (TKo b L) (VLo b L) i).2.2.1 = [] then -1 else nI ss.length) (by
            by_cases z : (lnP (TKo b L) (VLo b L) i).2.2.1 = []
            · rw [if_pos z, z, if_pos (by show ss.length = ss.length + 0; omega)]
            · have : (lnP (TKo b L) (VLo b L) i).2.2.1.length ≠ 0 := fun q => z (List.eq_nil_of_length_eq_zero q)
              rw [if_neg z, if_neg (by omega)])
          have key := ih (lnP (TKo b L) (VLo b L) i).2.1 _ _ sp' ra2 _ nx2 wh2 to2 nu2 sg2 wd2 op2 (by omega) p2 (by rw [← el2]; omega) (by rw [← el]; omega) R2 (A.add A2) LM2 (LO.add p6 p7 p8) (by
            rw [← el2, esp]
            rcases hsp with ⟨q1, q2⟩ | ⟨q1, q2⟩
            · by_cases z : ls.length = 20
              · rw [if_pos z]; exact Or.inr ⟨by simp, by omega⟩
              · rw [if_neg z]; exact Or.inl ⟨q1, by omega⟩
            · rw [if_neg (by omega)]; exact Or.inr ⟨q1, by omega⟩) eX
          rw [← el, ← el2] at key
          exact key
        · rw [if_neg (by rw [e]; simp)] at eX
          subst eX
          refine ip_F' (by decide) ?_
          unfold wX11_orders_91
          have e10 : stA (alS b L al sp') (PLo b L (lnP (TKo b L) (VLo b L) i).2.1) 10 = 1 := by unfold stA; rw [pk_un (by omega), pk_us]
          rw [show (10 : Int32).toNatClampNeg = 10 from rfl, e10]
          refine ⟨v10, ip_F (by decide) (h1 rfl nx2 wh2 to2 nu2 sg2 wd2 op2 ln2 ac2 ra2 _ rl2 ⟨fun i h1 h2 => ?_, e10, ?_⟩)⟩
          · unfold stA
            rw [pk_un h2, pk_un h1]
            exact alS_un h1 h2
          · unfold stA
            rw [pk_us]
      unfold wX11_aLine wX11_aLine_14
      rw [show (20 : Int32) = nI 20 from rfl, nI_ltI (by omega) (by omega)]
      refine ip_split (fun d => ip_T rfl (body 0 sp (Or.inl ⟨rfl, d⟩) (by rw [if_neg (by omega)]))) (fun d => ip_F (by decide) ⟨v10, ?_⟩)
      rw [show (10 : Int32).toNatClampNeg = 10 from rfl, show (11 : Int32).toNatClampNeg = 11 from rfl]
      rcases hsp with ⟨q1, q2⟩ | ⟨q1, q2⟩
      · subst q1
        refine ip_T' ha10 ⟨v10, v11, ?_⟩
        have key := body 1 (some i) (Or.inr ⟨by decide, d⟩) (by rw [if_pos (by omega)])
        rw [R.2.1] at key ⊢
        exact key
      · have e10 : alS b L al sp 10 = 2 := by
          cases sp with
          | none => exact absurd rfl q1
          | some p => show upd (upd al 10 2) 11 (nI (PLo b L p)) 10 = 2; rw [pk_un (by omega), pk_us]
        rw [e10]
        exact ip_F' (by decide) (body 1 sp (Or.inr ⟨by decide, d⟩) (by rw [if_neg (by omega)]))
    rcases R.2.2 with ⟨t, e⟩ | ⟨t, e, -⟩ | ⟨t, e, -⟩ | ⟨t, e, -⟩ | ⟨t, e⟩
    · exact ip_T e (fin t)
    · exact ip_F (by rw [e]; decide) (line (by unfold TKo; omega))
    · exact ip_F (by rw [e]; decide) (line (by unfold TKo; omega))
    · exact ip_F (by rw [e]; decide) (line (by unfold TKo; omega))
    · exact ip_F (by rw [e]; decide) (line (by unfold TKo; omega))
