/-! PURE LEVEL 35: the class reads a term -/
/-- what a reading procedure does, against its grammar -/
def CR (n : Nat) (E : Nat → PR) (C : (Int32 → Int32 → Int32 → (Nat → Int32) → Prop) → Int32 → Int32 → (Nat → Int32) → Prop) : Prop :=
  ∀ (Q : Int32 → Int32 → Int32 → (Nat → Int32) → Prop) (i sn : Nat) (st : Nat → Int32), i ≤ n → sn ≤ i → ((E i).1 = true → ∀ st', SpR sn (E i).2.2 st st' → Q 1 (nI (E i).2.1) (nI (sn + (E i).2.2.length)) st') → ((E i).1 = false → ∀ sn' st', Q 0 (nI (E i).2.1) sn' st') → C Q (nI i) (nI sn) st
theorem bfalse {x : Bool} (h : ¬ x = true) : x = false := by cases x <;> simp_all
theorem c_cmp {n : Nat} {tk vl : Nat → Nat} {tkA vlA : Nat → Int32} (H : Ed n tk) (htk : ∀ j, j ≤ n → tkA j = nI (tk j) ∧ tk j < 1000) (hvl : ∀ j, j ≤ n → tk j = 256 → vlA j = nI (vl j)) (hv : ∀ j, vl j < 10000) : CR n (cmpP tk vl) (fun Q at' sn st => wX5_readComparison Q (nI (n + 1)) at' sn st tkA vlA) := by
  have hn := H.1
  intro Q i sn st hi hsn hT hF
  unfold wX5_readComparison
  refine c_token H htk hi ?_
  have t1 := (htk i hi).2
  unfold wX9_isWhat
  unfold cmpP at hT hF
  refine ip_F (nI_pos (by omega)) ?_
  rw [show (12 : Int32) = nI 12 from rfl, nI_ltI (by omega) (by omega)]
  refine ip_split (fun c => ip_T' rfl ?_) (fun c => ip_F' (by decide) ?_)
  · rw [if_neg (show ¬ tk i ≤ 12 by omega)] at hF
    exact hF rfl _ _
  · rw [if_pos (show tk i ≤ 12 by omega)] at hT hF
    have l1 := H.lt hi (by omega)
    rw [nI_1]
    refine c_token H htk (by omega) (c_isComp (by have := (htk (i + 1) (by omega)).2; omega) ?_)
    by_cases d : tk (i + 1) = 60 ∨ tk (i + 1) = 61 ∨ tk (i + 1) = 62
    · rw [bI_T d]
      rw [if_pos d] at hT hF
      have l2 := H.lt (i := i + 1) (by omega) (by omega)
      refine ip_F' (by decide) ?_
      rw [nI_1]
      refine c_takeNumber H htk hvl (by omega) (fun e => ip_F' (nI_ne_m1 (by have := hv (i + 1 + 1); omega)) ?_) (fun e => ip_T' rfl ?_)
      · rw [if_pos e] at hT
        unfold wX4_comparison
        rw [pack_c (by omega) (by omega) (by have := hv (i + 1 + 1); omega)]
        exact c_addStep (by omega) (hT rfl _ SpR.one)
      · rw [if_neg e] at hF
        exact hF rfl _ _
    · rw [bI_F d]
      rw [if_neg d] at hF
      exact ip_T' rfl (hF rfl _ _)
theorem c_one {n : Nat} {tk vl : Nat → Nat} {tkA vlA : Nat → Int32} {T : Nat → PR} {x1 : Int32} {RA : (Int32 → Int32 → Int32 → (Nat → Int32) → Prop) → Int32 → Int32 → Int32 → Int32 → (Nat → Int32) → (Nat → Int32) → (Nat → Int32) → Prop} (H : Ed n tk) (htk : ∀ j, j ≤ n → tkA j = nI (tk j) ∧ tk j < 1000) (hvl : ∀ j, j ≤ n → tk j = 256 → vlA j = nI (vl j)) (hv : ∀ j, vl j < 10000) (hTg : Pg n T) (hT : CR n T (fun Q at' sn st => RA Q (x1 + 1) (nI (n + 1)) at' sn st tkA vlA)) : CR n (oneP tk vl T) (fun Q at' sn st => wX5_readOne RA Q x1 (nI (n + 1)) at' sn st tkA vlA) := by
  have hn := H.1
  intro Q i sn st hi hsn qT qF
  unfold wX5_readOne
  have bpg := base_pg (vl := vl) H hTg
  -- from the place behind a 'not' or without one
  have go : ∀ (j : Nat) (z : Int32), j ≤ n → sn ≤ j → ((baseP tk vl T j).1 = true → ∀ st', SpR sn (baseP tk vl T j).2.2 st st' → wX5_readOne_47 RA Q z 1 (nI (n + 1)) (nI (baseP tk vl T j).2.1) (nI (sn + (baseP tk vl T j).2.2.length)) st' tkA vlA) → ((baseP tk vl T j).1 = false → ∀ sn' st', Q 0 (nI (baseP tk vl T j).2.1) sn' st') → wX5_take (fun r_11 f_at_10 => ((r_11 = 0 → (wX5_readComparison (fun r_16 f_at_13 f_stepped_14 r_steps_15 => (wX5_readOne_47 RA Q z r_16 (nI (n + 1)) f_at_13 f_stepped_14 r_steps_15 tkA vlA)) (nI (n + 1)) f_at_10 (nI sn) st tkA vlA)) ∧ (¬ r_11 = 0 → (RA (fun r_20 f_at_17 f_stepped_18 r_steps_19 => ((r_20 = 0 → (wX5_readOne_39 RA Q z (nI (n + 1)) f_at_17 f_stepped_18 r_steps_19 tkA vlA)) ∧ (¬ r_20 = 0 → (wX5_take (fun r_23 f_at_22 => ((r_23 = 0 → (wX5_readOne_39 RA Q z (nI (n + 1)) f_at_22 f_stepped_18 r_steps_19 tkA vlA)) ∧ (¬ r_23 = 0 → (wX5_readOne_47 RA Q z (1 : Int32) (nI (n + 1)) f_at_22 f_stepped_18 r_steps_19 tkA vlA)))) (41 : Int32) (nI (n + 1)) f_at_17 tkA)))) (x1 + (1 : Int32)) (nI (n + 1)) f_at_10 (nI sn) st tkA vlA)))) (40 : Int32) (nI (n + 1)) (nI j) tkA := by
    intro j z hj hsj gT gF
    have no : ∀ at' sn' st', Q 0 at' sn' st' → wX5_readOne_47 RA Q z 0 (nI (n + 1)) at' sn' st' tkA vlA := fun at' sn' st' q => by
      unfold wX5_readOne_47
      exact ip_T rfl ⟨rfl, q⟩
    unfold baseP at gT gF
    refine c_take (c := 40) H htk hj (by omega) (fun d => ip_F (by decide) ?_) (fun d => ip_T rfl ?_)
    · have l1 := H.lt hj (by omega)
      rw [if_pos d] at gT gF
      unfold parP at gT gF
      obtain ⟨p1, p2, p3⟩ := hTg (j + 1) (by omega)
      refine hT _ (j + 1) sn st (by omega) (by omega) (fun e st' S => ip_F (by decide) (c_take (c := 41) H htk p2 (by omega) (fun f => ip_F (by decide) ?_) (fun f => ip_T rfl ?_))) (fun e sn' st' => ip_T rfl ?_)
      · rw [if_pos e, if_pos f] at gT
        exact gT rfl st' S
      · rw [if_pos e, if_neg f] at gF
        exact no _ _ _ (gF rfl _ _)
      · rw [if_neg (by rw [e]; simp)] at gF
        exact no _ _ _ (gF rfl _ _)
    · rw [if_neg d] at gT gF
      exact c_cmp H htk hvl hv _ j sn st hj hsj (fun e st' S => gT e st' S) (fun e sn' st' => no _ _ _ (gF e _ _))
  unfold oneP at qT qF
  refine c_take (c := 19) H htk hi (by omega) (fun d => ?_) (fun d => ?_)
  · have l1 := H.lt hi (by omega)
    rw [if_pos d] at qT qF
    obtain ⟨p1, p2, p3⟩ := bpg (i + 1) (by omega)
    refine go (i + 1) 1 (by omega) (by omega) (fun e st' S => ?_) (fun e sn' st' => ?_)
    · rw [if_pos e] at qT
      obtain ⟨p4, p5⟩ := p3 e
      unfold wX5_readOne_47
      refine ip_F (by decide) (ip_F (by decide) (c_addStep (by omega) ⟨rfl, ?_⟩))
      have key := qT rfl _ (S.app SpR.one)
      have el : ((true, (baseP tk vl T (i + 1)).2.1, (baseP tk vl T (i + 1)).2.2 ++ [-1]) : PR).2.2.length = (baseP tk vl T (i + 1)).2.2.length + 1 := by
        show ((baseP tk vl T (i + 1)).2.2 ++ [-1]).length = _
        rw [List.length_append]; rfl
      rw [el] at key
      exact key
    · rw [if_neg (by rw [e]; simp)] at qF
      exact qF rfl _ _
  · rw [if_neg d] at qT qF
    refine go i 0 hi hsn (fun e st' S => ?_) (fun e sn' st' => qF e sn' st')
    unfold wX5_readOne_47
    exact ip_F (by decide) (ip_T rfl ⟨rfl, qT e st' S⟩)
theorem c_both {n : Nat} {tk : Nat → Nat} {tkA vlA : Nat → Int32} {E : Nat → PR} {x1 : Int32} {RA : (Int32 → Int32 → Int32 → (Nat → Int32) → Prop) → Int32 → Int32 → Int32 → Int32 → (Nat → Int32) → (Nat → Int32) → (Nat → Int32) → Prop} (H : Ed n tk) (htk : ∀ j, j ≤ n → tkA j = nI (tk j) ∧ tk j < 1000) (hEg : Pg n E) (hE : CR n E (fun Q at' sn st => wX5_readOne RA Q x1 (nI (n + 1)) at' sn st tkA vlA)) : CR n (seqP tk 18 (-2) E) (fun Q at' sn st => wX5_readBoth RA Q x1 (nI (n + 1)) at' sn st tkA vlA) := by
  have hn := H.1
  intro Q i sn st hi hsn qT qF
  unfold wX5_readBoth
  unfold seqP at qT qF
  obtain ⟨p1, p2, p3⟩ := hEg i hi
  refine hE _ i sn st hi hsn (fun e st1 S1 => ip_F' (by decide) ⟨402, ?_⟩) (fun e sn' st' => ip_T' rfl ?_)
  · rw [if_pos e] at qT qF
    obtain ⟨p4, p5⟩ := p3 e
    have lp : ∀ (f k j : Nat) (l : List Int32) (st1 : Nat → Int32), k + 1 ≤ j → j ≤ n → sn + l.length ≤ j → n < j + f → SpR sn l st st1 → ((lopP tk 18 (-2) E f j l).1 = true → ∀ st', SpR sn (lopP tk 18 (-2) E f j l).2.2 st st' → Q 1 (nI (lopP tk 18 (-2) E f j l).2.1) (nI (sn + (lopP tk 18 (-2) E f j l).2.2.length)) st') → ((lopP tk 18 (-2) E f j l).1 = false → ∀ sn' st', Q 0 (nI (lopP tk 18 (-2) E f j l).2.1) sn' st') → wX5_readBoth_12 RA Q (f + 1) x1 (nI k) (nI (n + 1)) (nI j) (nI (sn + l.length)) st1 tkA vlA := by
      intro f
      induction f with
      | zero => intro k j l st1 a1 a2 a3 a4; omega
      | succ f ih =>
        intro k j l st1 a1 a2 a3 a4 S gT gF
        rw [lopP_s] at gT gF
        refine ip_F (nI_ge (a := k) (b := 400) (by omega) (by omega)) (c_take (c := 18) H htk a2 (by omega) (fun d => ip_F (by decide) ?_) (fun d => ip_T rfl ?_))
        · have l1 := H.lt a2 (by omega)
          rw [if_pos d] at gT gF
          obtain ⟨r1, r2, r3⟩ := hEg (j + 1) (by omega)
          refine hE _ (j + 1) (sn + l.length) st1 (by omega) (by omega) (fun e' st2 S2 => ip_F' (by decide) ?_) (fun e' sn' st' => ip_T' rfl ?_)
          · rw [if_pos e'] at gT gF
            obtain ⟨r4, r5⟩ := r3 e'
            refine c_addStep (by omega) ?_
            rw [nI_1]
            have S3 := S.app (S2.app (SpR.one (st := st2) (x := -2)))
            have el : sn + l.length + (E (j + 1)).2.2.length + 1 = sn + (l ++ ((E (j + 1)).2.2 ++ [-2])).length := by
              rw [List.length_append, List.length_append]
              show sn + l.length + (E (j + 1)).2.2.length + 1 = sn + (l.length + ((E (j + 1)).2.2.length + 1))
              omega
            rw [el]
            exact ih (k + 1) _ _ _ (by omega) r2 (by omega) (by omega) S3 gT gF
          · rw [if_neg (by rw [e']; simp)] at gF
            exact gF rfl _ _
        · rw [if_neg d] at gT
          exact gT rfl st1 S
    exact lp 401 0 _ _ st1 (by omega) p2 (by omega) (by omega) S1 qT qF
  · rw [if_neg (by rw [e]; simp)] at qF
    exact qF rfl _ _
theorem c_term {n : Nat} {tk vl : Nat → Nat} {tkA vlA : Nat → Int32} (H : Ed n tk) (htk : ∀ j, j ≤ n → tkA j = nI (tk j) ∧ tk j < 1000) (hvl : ∀ j, j ≤ n → tk j = 256 → vlA j = nI (vl j)) (hv : ∀ j, vl j < 10000) : ∀ d, d ≤ 8 → CR n (tmP tk vl d) (fun Q at' sn st => wX5_readTerm_d (d + 2) Q (nI (9 - d)) (nI (n + 1)) at' sn st tkA vlA) := by
  have hn := H.1
  intro d
  induction d with
  | zero =>
    intro _ Q i sn st hi hsn qT qF
    exact ip_T (by decide) (qF rfl _ _)
  | succ d ih =>
    intro hd Q i sn st hi hsn qT qF
    have pg := tm_pg (vl := vl) H d
    have e9 : nI (9 - (d + 1)) + 1 = nI (9 - d) := by rw [nI_1, show 9 - (d + 1) + 1 = 9 - d by omega]
    have one := c_one (x1 := nI (9 - (d + 1))) (RA := wX5_readTerm_d (d + 2)) H htk hvl hv pg (by rw [e9]; exact ih (by omega))
    have og := one_pg (vl := vl) H pg
    have both := c_both (x1 := nI (9 - (d + 1))) (RA := wX5_readTerm_d (d + 2)) H htk og one
    have bg := seq_pg (c := (-2 : Int32)) (w := 18) H (by omega) og
    have qT' : (seqP tk 17 (-3) (seqP tk 18 (-2) (oneP tk vl (tmP tk vl d))) i).1 = true → ∀ st', SpR sn (seqP tk 17 (-3) (seqP tk 18 (-2) (oneP tk vl (tmP tk vl d))) i).2.2 st st' → Q 1 (nI (seqP tk 17 (-3) (seqP tk 18 (-2) (oneP tk vl (tmP tk vl d))) i).2.1) (nI (sn + (seqP tk 17 (-3) (seqP tk 18 (-2) (oneP tk vl (tmP tk vl d))) i).2.2.length)) st' := qT
    have qF' : (seqP tk 17 (-3) (seqP tk 18 (-2) (oneP tk vl (tmP tk vl d))) i).1 = false → ∀ sn' st', Q 0 (nI (seqP tk 17 (-3) (seqP tk 18 (-2) (oneP tk vl (tmP tk vl d))) i).2.1) sn' st' := qF
    generalize hEE : seqP tk 18 (-2) (oneP tk vl (tmP tk vl d)) = E at qT' qF' both bg
    clear qT qF
    show wX5_readTerm_b (wX5_readTerm_d (d + 2)) Q (nI (9 - (d + 1))) (nI (n + 1)) (nI i) (nI sn) st tkA vlA
    unfold wX5_readTerm_b
    unfold seqP at qT' qF'
    obtain ⟨p1, p2, p3⟩ := bg i hi
    refine ip_F (by rw [show (8 : Int32) = nI 8 from rfl, nI_ltI (by omega) (by omega)]; omega) ?_
    refine both _ i sn st hi hsn (fun e st1 S1 => ip_F' (by decide) ⟨402, ?_⟩) (fun e sn' st' => ip_T' rfl ?_)
    · rw [if_pos e] at qT' qF'
      obtain ⟨p4, p5⟩ := p3 e
      have lp : ∀ (f k j : Nat) (l : List Int32) (st1 : Nat → Int32), k + 1 ≤ j → j ≤ n → sn + l.length ≤ j → n < j + f → SpR sn l st st1 → ((lopP tk 17 (-3) E f j l).1 = true → ∀ st', SpR sn (lopP tk 17 (-3) E f j l).2.2 st st' → Q 1 (nI (lopP tk 17 (-3) E f j l).2.1) (nI (sn + (lopP tk 17 (-3) E f j l).2.2.length)) st') → ((lopP tk 17 (-3) E f j l).1 = false → ∀ sn' st', Q 0 (nI (lopP tk 17 (-3) E f j l).2.1) sn' st') → wX5_readTerm_18 (wX5_readTerm_d (d + 2)) Q (f + 1) (nI (9 - (d + 1))) (nI k) (nI (n + 1)) (nI j) (nI (sn + l.length)) st1 tkA vlA := by
        intro f
        induction f with
        | zero => intro k j l st1 a1 a2 a3 a4; omega
        | succ f ih' =>
          intro k j l st1 a1 a2 a3 a4 S gT gF
          rw [lopP_s] at gT gF
          refine ip_F (nI_ge (a := k) (b := 400) (by omega) (by omega)) (c_take (c := 17) H htk a2 (by omega) (fun c => ip_F (by decide) ?_) (fun c => ip_T rfl ?_))
          · have l1 := H.lt a2 (by omega)
            rw [if_pos c] at gT gF
            obtain ⟨r1, r2, r3⟩ := bg (j + 1) (by omega)
            refine both _ (j + 1) (sn + l.length) st1 (by omega) (by omega) (fun e' st2 S2 => ip_F' (by decide) ?_) (fun e' sn' st' => ip_T' rfl ?_)
            · rw [if_pos e'] at gT gF
              obtain ⟨r4, r5⟩ := r3 e'
              refine c_addStep (by omega) ?_
              rw [nI_1]
              have S3 := S.app (S2.app (SpR.one (st := st2) (x := -3)))
              have el : sn + l.length + (E (j + 1)).2.2.length + 1 = sn + (l ++ ((E (j + 1)).2.2 ++ [-3])).length := by
                rw [List.length_append, List.length_append]
                show sn + l.length + (E (j + 1)).2.2.length + 1 = sn + (l.length + ((E (j + 1)).2.2.length + 1))
                omega
              rw [el]
              exact ih' (k + 1) _ _ _ (by omega) r2 (by omega) (by omega) S3 gT gF
            · rw [if_neg (by rw [e']; simp)] at gF
              exact gF rfl _ _
          · rw [if_neg c] at gT
            exact gT rfl st1 S
      exact lp 401 0 _ _ st1 (by omega) p2 (by omega) (by omega) S1 qT' qF'
    · rw [if_neg (by rw [e]; simp)] at qF'
      exact qF' rfl _ _
