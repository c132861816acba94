/-! PURE LEVEL 33: the class's row of tokens -/
theorem c_at {Q : Int32 → Prop} {b : Nat → Nat} {L p : Nat} {f : Nat → Int32} (H : BY b L f) (hp : p < L) (h : Q (nI (b p))) : wX6_at Q (nI p) (nI L) f := by
  have hL := H.1
  unfold wX6_at
  refine ip_F (nI_pos (by omega)) (ip_F (nI_ge hp (by omega)) ⟨vp_in_nI (by omega) (by omega), ?_⟩)
  rw [nI_clamp (by omega), (H.2 p hp).1]
  exact h
theorem c_isLetter {Q : Int32 → Prop} {x : Nat} (hx : x < 256) (h : Q (bI (isLet x))) : wX5_isLetter Q (nI x) := m_isLetter hx h
theorem c_isDigit {Q : Int32 → Prop} {x : Nat} (hx : x < 256) (h : Q (bI (isDgt x))) : wX5_isDigit Q (nI x) := m_isDigit hx h
theorem c_isComp {Q : Int32 → Prop} {x : Nat} (hx : x < 2 ^ 30) (h : Q (bI (x = 60 ∨ x = 61 ∨ x = 62))) : wX5_isComparison Q (nI x) := by
  unfold wX5_isComparison wX5_isComparison_18
  have lit : ∀ z : Nat, z < 256 → ((nI x = nI z) ↔ x = z) := fun z hz => nI_eq (by omega) (by omega)
  refine ip_split (fun c => ?_) (fun c5 => ip_split (fun c => ?_) (fun c6 => ip_split' (fun c => ?_) (fun c7 => ?_)))
  · have := (lit 61 (by omega)).mp c
    rw [bI_T (by omega)] at h; exact h
  · have := (lit 60 (by omega)).mp c
    rw [bI_T (by omega)] at h; exact h
  · have := (lit 62 (by omega)).mp c
    rw [bI_T (by omega)] at h; exact h
  · have d5 : x ≠ 61 := fun q => c5 ((lit 61 (by omega)).mpr q)
    have d6 : x ≠ 60 := fun q => c6 ((lit 60 (by omega)).mpr q)
    have d7 : x ≠ 62 := fun q => c7 ((lit 62 (by omega)).mpr q)
    rw [bI_F (by omega)] at h; exact h
theorem c_isSgn {Q : Int32 → Prop} {x : Nat} (hx : x < 256) (h : Q (bI (isSgn x))) : wX5_isSign Q (nI x) := by
  unfold wX5_isSign wX5_isSign_31
  have lit : ∀ z : Nat, z < 256 → ((nI x = nI z) ↔ x = z) := fun z hz => nI_eq (by omega) (by omega)
  refine ip_split (fun c => ?_) (fun c1 => ip_split (fun c => ?_) (fun c2 => ip_split (fun c => ?_) (fun c3 => ip_split (fun c => ?_) (fun c4 => c_isComp (by omega) ?_))))
  · rw [bI_T (Or.inl ((lit 40 (by omega)).mp c))] at h; exact h
  · rw [bI_T (Or.inr (Or.inl ((lit 41 (by omega)).mp c)))] at h; exact h
  · rw [bI_T (Or.inr (Or.inr (Or.inl ((lit 58 (by omega)).mp c))))] at h; exact h
  · rw [bI_T (Or.inr (Or.inr (Or.inr (Or.inl ((lit 59 (by omega)).mp c)))))] at h; exact h
  · have d1 : x ≠ 40 := fun q => c1 ((lit 40 (by omega)).mpr q)
    have d2 : x ≠ 41 := fun q => c2 ((lit 41 (by omega)).mpr q)
    have d3 : x ≠ 58 := fun q => c3 ((lit 58 (by omega)).mpr q)
    have d4 : x ≠ 59 := fun q => c4 ((lit 59 (by omega)).mpr q)
    by_cases e : x = 60 ∨ x = 61 ∨ x = 62
    · rw [bI_T e]
      rw [bI_T (by omega)] at h
      exact ip_F (by decide) h
    · rw [bI_F e]
      rw [bI_F (by omega)] at h
      exact ip_T rfl h
/-- the rows hold the first n tokens -/
def Row (b : Nat → Nat) (L n : Nat) (tk pl vl : Nat → Int32) : Prop := ∀ i, i < n → tk i = nI (TKo b L i) ∧ pl i = nI (PLo b L i) ∧ (TKo b L i = 256 → vl i = nI (VLo b L i))
theorem c_addToken {Q : Int32 → (Nat → Int32) → (Nat → Int32) → (Nat → Int32) → Prop} {b : Nat → Nat} {L n : Nat} {tk pl vl : Nat → Int32} {x1 x2 x3 : Int32} (hn : n ≤ 400) (R : Row b L n tk pl vl) (e1 : x1 = nI (TKo b L n)) (e2 : x2 = nI (PLo b L n)) (e3 : TKo b L n = 256 → x3 = nI (VLo b L n)) (h : ∀ tk' pl' vl', Row b L (n + 1) tk' pl' vl' → Q (nI (n + 1)) pl' tk' vl') : wX5_addToken Q x1 x2 x3 (nI n) pl tk vl := by
  unfold wX5_addToken
  have v := vp_in_nI (show n < 401 by omega) (by omega)
  refine ip_F (by rw [show (400 : Int32) = nI 400 from rfl, nI_ltI (by omega) (by omega)]; omega) ⟨v, v, v, ?_⟩
  rw [nI_clamp (by omega), nI_1]
  refine h _ _ _ (fun i hi => ?_)
  by_cases e : i = n
  · subst e
    rw [pk_us, pk_us, pk_us]
    exact ⟨e1, e2, e3⟩
  · rw [pk_un e, pk_un e, pk_un e]
    exact R i (by omega)
theorem c_scanWord {Q : Int32 → Int32 → (Nat → Int32) → (Nat → Int32) → (Nat → Int32) → Prop} {b : Nat → Nat} {L n q : Nat} {f tk pl vl : Nat → Int32} (H : BY b L f) (hn : n ≤ 400) (R : Row b L n tk pl vl) (hq : q < L) (hl : isLet (b q)) (eq : PLo b L n = q) (et : TKo b L n = tkW b q (leE b L q - q)) (h : ∀ tk' pl' vl', Row b L (n + 1) tk' pl' vl' → Q (nI (leE b L q)) (nI (n + 1)) pl' tk' vl') : wX5_scanWord Q (nI q) (nI L) (nI n) f pl tk vl := by
  have hL := H.1
  obtain ⟨l1, l2, l3, l4⟩ := runF_spec isLet b (L - q) q
  have l1' : q ≤ leE b L q := l1
  have l2' : leE b L q ≤ L := by have : leE b L q ≤ q + (L - q) := l2; omega
  have ne : leE b L q ≠ q := fun e => by
    have e' : runF isLet b (L - q) q = q := e
    have := l4 (by rw [e']; omega)
    rw [e'] at this
    exact this hl
  refine ⟨L - (q + 1) + 1, ?_⟩
  have lp : ∀ (m e : Nat), e + m = L → e ≤ leE b L q → q < e → wX5_scanWord_4 Q (m + 1) (nI q) (nI e) (nI L) (nI n) f pl tk vl := by
    intro m
    have fin : wX5_scanWord_29 Q (nI q) (nI (leE b L q)) (nI L) (nI n) f pl tk vl := by
      unfold wX5_scanWord_29
      have key := c_find (Q := fun r_5 => ((¬ r_5 = (-1 : Int32) → (wX5_scanWord_52 Q (nI q) (nI (leE b L q)) r_5 (nI L) (nI n) f pl tk vl)) ∧ (r_5 = (-1 : Int32) → (wX5_scanWord_52 Q (nI q) (nI (leE b L q)) (258 : Int32) (nI L) (nI n) f pl tk vl)))) (b := b) (by' := f) (L := L) (q := q) (m := leE b L q - q) hL H.2 (by omega) (fun e => ip_T' rfl ?_) (fun e => ip_F' (nI_ne_m1 (by omega)) ?_)
      · rw [show q + (leE b L q - q) = leE b L q by omega] at key
        exact key
      · exact c_addToken hn R (by rw [et, e]; rfl) (by rw [eq]) (fun z => by rw [et, e] at z; exact absurd z (by omega)) h
      · exact c_addToken hn R (by rw [et]) (by rw [eq]) (fun z => by rw [et] at z; exact absurd z (by omega)) h
    induction m with
    | zero =>
      intro e he h1 h2
      have : leE b L q = e := by omega
      rw [this] at fin
      exact ip_T (nI_le (by omega) (by omega)) fin
    | succ m ih =>
      intro e he h1 h2
      refine ip_F (nI_ge (by omega) (by omega)) (c_at H (by omega) (c_isLetter (H.2 e (by omega)).2 ?_))
      by_cases c : isLet (b e)
      · rw [bI_T c]
        have lt : e < leE b L q := by
          by_cases z : e = leE b L q
          · have z' : runF isLet b (L - q) q = e := z.symm
            have := l4 (by rw [z']; omega)
            rw [z'] at this
            exact absurd c this
          · omega
        rw [nI_1]
        exact ip_F (by decide) (ih (e + 1) (by omega) (by omega) (by omega))
      · rw [bI_F c]
        have : leE b L q = e := runF_uniq isLet b (by omega) (by omega) (fun i a d => l3 i a (by show i < leE b L q; omega)) (fun _ => c)
        rw [this] at fin
        exact ip_T rfl fin
  rw [nI_1]
  exact lp (L - (q + 1)) (q + 1) (by omega) (by omega) (by omega)
theorem c_scanNumber {Q : Int32 → Int32 → (Nat → Int32) → (Nat → Int32) → (Nat → Int32) → Prop} {b : Nat → Nat} {L n q : Nat} {f tk pl vl : Nat → Int32} (H : BY b L f) (hn : n ≤ 400) (R : Row b L n tk pl vl) (hq : q < L) (eq : PLo b L n = q) (et : TKo b L n = if dgE b L q - q ≤ 4 then 256 else 258) (ev : VLo b L n = nuF b (dgE b L q - q) q 0) (h : ∀ tk' pl' vl', Row b L (n + 1) tk' pl' vl' → Q (nI (dgE b L q)) (nI (n + 1)) pl' tk' vl') : wX5_scanNumber Q (nI q) (nI L) (nI n) f pl tk vl := by
  have hL := H.1
  obtain ⟨l1, l2, l3, l4⟩ := runF_spec isDgt b (L - q) q
  have l1' : q ≤ dgE b L q := l1
  have l2' : dgE b L q ≤ L := by have : dgE b L q ≤ q + (L - q) := l2; omega
  refine ⟨L - q + 1, ?_⟩
  have lp : ∀ (n' m : Nat), q + m + n' = L → q + m ≤ dgE b L q → wX5_scanNumber_5 Q (n' + 1) (nI q) (nI (q + m)) (nI (nuF b m q 0)) (nI L) (nI n) f pl tk vl := by
    intro n'
    have fin : ∀ m, dgE b L q = q + m → wX5_scanNumber_50 Q (nI q) (nI (q + m)) (nI (nuF b m q 0)) (nI L) (nI n) f pl tk vl := by
      intro m e
      unfold wX5_scanNumber_50 wX5_scanNumber_67
      rw [e, show q + m - q = m by omega] at et ev
      rw [e] at h
      rw [pk_sub (by omega), show q + m - q = m by omega, show (4 : Int32) = nI 4 from rfl, nI_leI (by omega) (by omega)]
      refine ip_split (fun c => ?_) (fun c => ?_)
      · rw [if_pos c] at et
        exact c_addToken hn R (by rw [et]; rfl) (by rw [eq]) (fun _ => by rw [ev]) h
      · rw [if_neg c] at et
        exact c_addToken hn R (by rw [et]; rfl) (by rw [eq]) (fun z => by rw [et] at z; exact absurd z (by omega)) h
    induction n' with
    | zero =>
      intro m he h1
      exact ip_T (nI_le (by omega) (by omega)) (fin m (by omega))
    | succ n' ih =>
      intro m he h1
      refine ip_F (nI_ge (by omega) (by omega)) (c_at H (by omega) (c_isDigit (H.2 (q + m) (by omega)).2 ?_))
      by_cases c : isDgt (b (q + m))
      · rw [bI_T c]
        have lt : q + m < dgE b L q := by
          by_cases z : q + m = dgE b L q
          · have z' : runF isDgt b (L - q) q = q + m := z.symm
            have := l4 (by rw [z']; omega)
            rw [z'] at this
            exact absurd c this
          · omega
        refine ip_F (by decide) (c_at H (by omega) ?_)
        have sm := nuF_small (b := b) m q 0 (by omega)
        have e4 : (10 : Nat) ^ 4 = 10000 := by decide
        have ex : nI (nuF b m q 0) * 10 + nI (b (q + m)) - 48 = nI (nuF b m q 0 * 10 + (b (q + m) - 48)) := by
          rw [show (10 : Int32) = nI 10 from rfl, show (48 : Int32) = nI 48 from rfl, pk_mul, nI_add, pk_sub (by omega)]
          congr 1
          omega
        rw [ex, show nI (nuF b m q 0 * 10 + (b (q + m) - 48)) - nI (nuF b m q 0 * 10 + (b (q + m) - 48)) / 10000 * 10000 = nI ((nuF b m q 0 * 10 + (b (q + m) - 48)) % 10000) from pk_rem (d := 10000) (by omega) (by omega) (by omega), ← nuF_s, nI_1]
        exact ih (m + 1) (by omega) (by omega)
      · rw [bI_F c]
        refine ip_T rfl (fin m ?_)
        exact runF_uniq isDgt b (by omega) (by omega) (fun i a d => l3 i a (by show i < dgE b L q; omega)) (fun _ => c)
  exact lp (L - q) 0 (by omega) (by omega)
theorem TK_ne {b : Nat → Nat} {L i : Nat} (h : PLo b L i < L) : TKo b L i ≠ 257 := fun e => by
  have := TK_end e; omega
theorem PL_ge {b : Nat → Nat} {L : Nat} : ∀ i, (∀ j, j < i → TKo b L j ≠ 257) → i ≤ PLo b L i := by
  intro i
  induction i with
  | zero => intro _; exact Nat.zero_le _
  | succ i ih =>
    intro h
    have h1 := ih (fun j hj => h j (by omega))
    have h2 := (PL_s (b := b) (L := L) (i := i)).2.1 (h i (by omega))
    omega
theorem c_scan {Q : Int32 → (Nat → Int32) → (Nat → Int32) → (Nat → Int32) → Prop} {b : Nat → Nat} {L : Nat} {f tk pl vl : Nat → Int32} {fs : Int32} (H : BY b L f) (h : ∀ n tk' pl' vl', n ≤ 400 → TKo b L n = 257 → (∀ j, j < n → TKo b L j ≠ 257) → Row b L (n + 1) tk' pl' vl' → Q (nI (n + 1)) pl' tk' vl') : wX5_scan Q (nI L) fs f pl tk vl := by
  have hL := H.1
  refine ⟨L + 1, ?_⟩
  have lp : ∀ (m x k n : Nat) (tk pl vl : Nat → Int32), L ≤ x + m → x ≤ L → k ≤ x → NO b L n ≤ x → skP b L x = PLo b L n → (∀ j, j < n → TKo b L j ≠ 257) → n ≤ x → Row b L n tk pl vl → wX5_scan_9 Q (m + 1) (nI x) (nI k) (nI L) (nI n) f pl tk vl := by
    intro m
    have fin : ∀ (x n : Nat) (tk pl vl : Nat → Int32), x = L → skP b L x = PLo b L n → (∀ j, j < n → TKo b L j ≠ 257) → n ≤ x → Row b L n tk pl vl → wX5_scan_118 Q (nI L) (nI n) f pl tk vl := by
      intro x n tk pl vl ex es hj hn R
      have sl : PLo b L n = L := by
        rw [← es, ex]
        exact runF_uniq isWs b (Nat.le_refl _) (by omega) (fun i a d => absurd d (by omega)) (fun h => absurd h (by omega))
      have te : TKo b L n = 257 := by
        unfold TKo tkO
        rw [if_pos (by show L ≤ PLo b L n; omega)]
      unfold wX5_scan_118
      exact c_addToken (by omega) R (by rw [te]; rfl) (by rw [sl]) (fun z => by rw [te] at z; exact absurd z (by omega)) (fun tk' pl' vl' R' => h n tk' pl' vl' (by omega) te hj R')
    induction m with
    | zero =>
      intro x k n tk pl vl h1 h2 h3 h4 h5 h6 h7 R
      have ex : x = L := by omega
      refine ip_split (fun _ => fin x n tk pl vl ex h5 h6 h7 R) (fun _ => ip_T (nI_le (by omega) (by omega)) (fin x n tk pl vl ex h5 h6 h7 R))
    | succ m ih =>
      intro x k n tk pl vl h1 h2 h3 h4 h5 h6 h7 R
      by_cases ex : x = L
      · exact ip_split (fun _ => fin x n tk pl vl ex h5 h6 h7 R) (fun _ => ip_T (nI_le (by omega) (by omega)) (fin x n tk pl vl ex h5 h6 h7 R))
      · have bx := (H.2 x (by omega)).2
        have lit : ∀ z : Nat, z < 256 → ((nI (b x) = nI z) ↔ b x = z) := fun z hz => nI_eq (by omega) (by omega)
        refine ip_F (nI_ge (a := k) (b := 400) (by omega) (by omega)) (ip_F (nI_ge (by omega) (by omega)) (c_at H (by omega) ?_))
        have ws : isWs (b x) → wX5_scan_45 Q (wX5_scan_9 Q (m + 1)) (nI x) (nI k) (nI L) (nI n) f pl tk vl := fun c => by
          unfold wX5_scan_45 wX5_scan_112
          rw [nI_1, nI_1]
          exact ih (x + 1) (k + 1) n tk pl vl (by omega) (by omega) (by omega) (by omega) (by rw [sk_step (by omega) c, h5]) h6 (by omega) R
        refine ip_split (fun c => ws (Or.inr ((lit 32 (by omega)).mp c))) (fun c1 => ip_split' (fun c => ws (Or.inl ((lit 10 (by omega)).mp c))) (fun c2 => c_isLetter bx ?_))
        have nw : ¬ isWs (b x) := fun q => by
          rcases q with q | q
          · exact c2 ((lit 10 (by omega)).mpr q)
          · exact c1 ((lit 32 (by omega)).mpr q)
        have px : PLo b L n = x := by rw [← h5]; exact sk_id (by omega) nw
        have t257 : TKo b L n ≠ 257 := TK_ne (by omega)
        have tkd : TKo b L n = if isLet (b x) then tkW b x (leE b L x - x) else if isDgt (b x) then (if dgE b L x - x ≤ 4 then 256 else 258) else if isSgn (b x) then b x else 258 := by
          unfold TKo tkO
          rw [show skP b L (NO b L n) = x from px, if_neg (by omega)]
        have nxd : NO b L (n + 1) = if isLet (b x) then leE b L x else if isDgt (b x) then dgE b L x else x + 1 := by
          show nxO b L (NO b L n) = _
          unfold nxO
          rw [show skP b L (NO b L n) = x from px, if_neg (by omega)]
        have nxs := nx_spec (b := b) (L := L) (p := NO b L n) (NO_le n)
        have nlt : x < NO b L (n + 1) := by
          have : skP b L (NO b L n) < nxO b L (NO b L n) := nxs.2.2.1 (by rw [show skP b L (NO b L n) = x from px]; omega)
          rw [show skP b L (NO b L n) = x from px] at this
          exact this
        have nle : NO b L (n + 1) ≤ L := NO_le _
        have h6' : ∀ j, j < n + 1 → TKo b L j ≠ 257 := fun j hj => by
          by_cases e : j = n
          · subst e; exact t257
          · exact h6 j (by omega)
        have nxt : ∀ tk' pl' vl', Row b L (n + 1) tk' pl' vl' → wX5_scan_9 Q (m + 1) (nI (NO b L (n + 1))) (nI (k + 1)) (nI L) (nI (n + 1)) f pl' tk' vl' := fun tk' pl' vl' R' => ih (NO b L (n + 1)) (k + 1) (n + 1) tk' pl' vl' (by omega) nle (by omega) (Nat.le_refl _) rfl h6' (by omega) R'
        by_cases c : isLet (b x)
        · rw [bI_T c]
          rw [if_pos c] at tkd nxd
          rw [nxd] at nxt
          refine ip_F (by decide) (c_scanWord H (by omega) R (by omega) c px tkd (fun tk' pl' vl' R' => ?_))
          unfold wX5_scan_112
          rw [nI_1]
          exact nxt tk' pl' vl' R'
        · rw [bI_F c]
          rw [if_neg c] at tkd nxd
          refine ip_T rfl (c_isDigit bx ?_)
          by_cases d : isDgt (b x)
          · rw [bI_T d]
            rw [if_pos d] at tkd nxd
            rw [nxd] at nxt
            refine ip_F (by decide) (c_scanNumber H (by omega) R (by omega) px tkd (by unfold VLo vlO; rw [show skP b L (NO b L n) = x from px]) (fun tk' pl' vl' R' => ?_))
            unfold wX5_scan_112
            rw [nI_1]
            exact nxt tk' pl' vl' R'
          · rw [bI_F d]
            rw [if_neg d] at tkd nxd
            rw [nxd] at nxt
            refine ip_T rfl (c_isSgn bx ?_)
            have go : ∀ s : Int32, s = nI (TKo b L n) → ¬ TKo b L n = 256 → wX5_scan_104 Q (wX5_scan_9 Q (m + 1)) (nI x) (nI k) s (nI L) (nI n) f pl tk vl := by
              intro s es ne
              unfold wX5_scan_104 wX5_scan_112
              refine c_addToken (by omega) R es (by rw [px]) (fun z => absurd z ne) (fun tk' pl' vl' R' => ?_)
              rw [nI_1, nI_1]
              exact nxt tk' pl' vl' R'
            by_cases e : isSgn (b x)
            · rw [bI_T e]
              rw [if_pos e] at tkd
              exact ip_F (by decide) (go _ (by rw [tkd]) (by rw [tkd]; omega))
            · rw [bI_F e]
              rw [if_neg e] at tkd
              exact ip_T rfl (go _ (by rw [tkd]; rfl) (by rw [tkd]; omega))
  exact lp L 0 0 0 tk pl vl (by omega) (by omega) (by omega) (Nat.le_refl _) rfl (fun j hj => absurd hj (by omega)) (Nat.le_refl _) (fun i hi => absurd hi (by omega))
