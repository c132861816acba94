/-! PURE LEVEL 28: turns -/
theorem cs_nxt {n : Nat} (hn : n < 7) : nxtOk n (csL n) = true := by
  have : n = 0 ∨ n = 1 ∨ n = 2 ∨ n = 3 ∨ n = 4 ∨ n = 5 ∨ n = 6 := by omega
  obtain ⟨a0, a1, a2, a3, a4, a5⟩ := cs_nxt0
  rcases this with e | e | e | e | e | e | e <;> subst e
  · exact a0
  · exact a1
  · exact a2
  · exact a3
  · exact a4
  · exact a5
  · exact cs_nxt6
theorem cs_chk {n : Nat} (hn : n < 7) : chk n (csL n) 0 = true := by
  have : n = 0 ∨ n = 1 ∨ n = 2 ∨ n = 3 ∨ n = 4 ∨ n = 5 ∨ n = 6 := by omega
  obtain ⟨a0, a1, a2, a3, a4, a5⟩ := cs_chk0
  rcases this with e | e | e | e | e | e | e <;> subst e
  · exact a0
  · exact a1
  · exact a2
  · exact a3
  · exact a4
  · exact a5
  · exact cs_chk6
theorem newD_iff {n w k : Nat} : ∀ m, newD n w k m = true ↔ ∀ j, j < m → dig n w j ≠ dig n w k := by
  intro m
  induction m with
  | zero => exact ⟨fun _ j hj => absurd hj (by omega), fun _ => rfl⟩
  | succ m ih =>
    unfold newD
    rw [Bool.and_eq_true, ih, bne_iff_ne]
    refine ⟨fun ⟨a, b⟩ j hj => ?_, fun h => ⟨h m (by omega), fun j hj => h j (by omega)⟩⟩
    by_cases e : j = m
    · subst e; exact a
    · exact b j (by omega)
theorem perC_iff {n w : Nat} : ∀ m, perC n w m = true ↔ ∀ j k, j < k → k < m → dig n w j ≠ dig n w k := by
  intro m
  induction m with
  | zero => exact ⟨fun _ j k _ hk => absurd hk (by omega), fun _ => rfl⟩
  | succ m ih =>
    unfold perC
    rw [Bool.and_eq_true, ih, newD_iff]
    refine ⟨fun ⟨a, b⟩ j k hj hk => ?_, fun h => ⟨fun j hj => h j m hj (by omega), fun j k hj hk => h j k hj (by omega)⟩⟩
    by_cases e : k = m
    · subst e; exact a j hj
    · exact b j k hj (by omega)
theorem dig_lt {n w k : Nat} (hk : k < n) : dig n w k < n := Nat.mod_lt _ (by omega)
theorem perC_ord {n w : Nat} : perC n w n = true ↔ isOrd n (dig n w) := by
  rw [perC_iff]
  exact ⟨fun h => ⟨fun k hk => dig_lt hk, h⟩, fun h => h.2⟩
theorem gap_iff {n lo : Nat} : ∀ k, gapOk n lo k = true ↔ ∀ v, lo ≤ v → v < lo + k → perC n v n = false := by
  intro k
  induction k with
  | zero => exact ⟨fun _ v h1 h2 => absurd h2 (by omega), fun _ => rfl⟩
  | succ k ih =>
    unfold gapOk
    rw [Bool.and_eq_true, ih, Bool.not_eq_true']
    refine ⟨fun ⟨a, b⟩ v h1 h2 => ?_, fun h => ⟨h _ (by omega) (by omega), fun v h1 h2 => h v h1 (by omega)⟩⟩
    by_cases e : v = lo + k
    · subst e; exact a
    · exact b v h1 (by omega)
theorem chk_skip {n w : Nat} {l : List Nat} (h : chk n l w = true) (hw : w < n ^ n) (hp : perC n w n = false) : chk n l (w + 1) = true := by
  cases l with
  | nil =>
    unfold chk at h ⊢
    rw [gap_iff] at h ⊢
    exact fun v h1 h2 => h v (by omega) (by omega)
  | cons c r =>
    unfold chk at h ⊢
    rw [Bool.and_eq_true, Bool.and_eq_true, Bool.and_eq_true, Nat.ble_eq, gap_iff] at h ⊢
    obtain ⟨h1, h2, h3, h4⟩ := h
    have : w ≠ c := fun e => by subst e; rw [hp] at h3; exact absurd h3 (by decide)
    exact ⟨by omega, fun v a b => h2 v (by omega) (by omega), h3, h4⟩
theorem chk_hit {n w : Nat} {l : List Nat} (h : chk n l w = true) (hw : w < n ^ n) (hp : perC n w n = true) : ∃ r, l = w :: r ∧ chk n r (w + 1) = true := by
  cases l with
  | nil =>
    unfold chk at h
    rw [gap_iff] at h
    have := h w (Nat.le_refl _) (by omega)
    rw [hp] at this; exact absurd this (by decide)
  | cons c r =>
    unfold chk at h
    rw [Bool.and_eq_true, Bool.and_eq_true, Bool.and_eq_true, Nat.ble_eq, gap_iff] at h
    obtain ⟨h1, h2, h3, h4⟩ := h
    by_cases e : w = c
    · subst e; exact ⟨r, rfl, h4⟩
    · have := h2 w (Nat.le_refl _) (by omega)
      rw [hp] at this; exact absurd this (by decide)
theorem chk_end {n : Nat} {l : List Nat} (h : chk n l (n ^ n) = true) (hp : ∀ c, c ∈ l → c < n ^ n) : l = [] := by
  cases l with
  | nil => rfl
  | cons c r =>
    unfold chk at h
    rw [Bool.and_eq_true, Nat.ble_eq] at h
    exact absurd (hp c List.mem_cons_self) (by omega)
theorem sameD_iff {n c : Nat} {t : Nat → Nat} : ∀ m, sameD n t c m = true ↔ ∀ k, k < m → t k = dig n c k := by
  intro m
  induction m with
  | zero => exact ⟨fun _ k hk => absurd hk (by omega), fun _ => rfl⟩
  | succ m ih =>
    unfold sameD
    rw [Bool.and_eq_true, ih, beq_iff_eq]
    refine ⟨fun ⟨a, b⟩ k hk => ?_, fun h => ⟨h m (by omega), fun k hk => h k (by omega)⟩⟩
    by_cases e : k = m
    · subst e; exact a
    · exact b k (by omega)
/-- the class's next order -/
def TR (n : Nat) (tr : Nat → Int32) (t : Nat → Nat) : Prop := ∀ k, k < n → tr k = nI (t k) ∧ t k < 6
theorem TR.sw {n i j : Nat} {tr : Nat → Int32} {t : Nat → Nat} (h : TR n tr t) (hi : i < n) (hj : j < n) : TR n (upd (upd tr i (tr j)) j (tr i)) (swF t i j) := fun k hk => by
  unfold swF
  by_cases e : k = j
  · subst e; rw [pk_us, if_pos rfl]; exact h i hi
  · rw [pk_un e, if_neg e]
    by_cases e2 : k = i
    · subst e2; rw [pk_us, if_pos rfl]; exact h j hj
    · rw [pk_un e2, if_neg e2]; exact h k hk
theorem c_rev {Q : Int32 → (Nat → Int32) → Prop} {n : Nat} (hn : n ≤ 6) : ∀ (m l r : Nat) (tr : Nat → Int32) (t : Nat → Nat), l ≤ 7 → r + 1 ≤ l + 2 * m + 1 → r < n → TR n tr t → (∀ tr', TR n tr' (revF m l r t) → Q 1 tr') → wX0_tryNext_91 Q (m + 1) (nI l) (nI r) (nI n) tr := by
  intro m
  induction m with
  | zero =>
    intro l r tr t hl h1 h2 hT h
    exact ip_T (nI_le (by omega) (by omega)) (h tr hT)
  | succ m ih =>
    intro l r tr t hl h1 h2 hT h
    unfold revF at h
    by_cases c : r ≤ l
    · rw [if_pos c] at h
      exact ip_T (nI_le c (by omega)) (h tr hT)
    · rw [if_neg c] at h
      refine ip_F (nI_ge (by omega) (by omega)) ?_
      have vl := vp_in_nI (show l < 6 by omega) (by omega)
      have vr := vp_in_nI (show r < 6 by omega) (by omega)
      unfold wX0_swap
      rw [nI_clamp (by omega), nI_clamp (by omega), nI_1]
      have er : nI r + -1 = nI (r - 1) := by
        have := pk_m1 (r - 1)
        rw [show r - 1 + 1 = r by omega] at this
        exact this
      rw [er]
      exact ⟨vl, vr, vl, vr, ih (l + 1) (r - 1) _ _ (by omega) (by omega) (by omega) (hT.sw (by omega) h2) h⟩
theorem aboveF_s (t : Nat → Nat) (r a : Nat) : aboveF t r (a + 1) = if a + 1 ≤ r then a + 1 else if t r ≤ t (a + 1) then a + 1 else aboveF t r a := rfl
theorem riseF_s (t : Nat → Nat) (i : Nat) : riseF t (i + 1) = if t i ≤ t (i + 1) then some i else riseF t i := rfl
theorem c_np {Q : Int32 → (Nat → Int32) → Prop} {n : Nat} (hn : n ≤ 6) {tr : Nat → Int32} {t : Nat → Nat} (hT : TR n tr t) (h0 : npF n t = none → Q 0 tr) (h1 : ∀ t', npF n t = some t' → ∀ tr', TR n tr' t' → Q 1 tr') : wX0_tryNext Q (nI n) tr := by
  have body : ∀ r, r + 1 < n → riseF t (n - 1) = some r → wX0_tryNext_34 Q (nI r) (nI n) tr := by
    intro r hr er
    unfold wX0_tryNext_34
    have en : nI n - 1 = nI (n - 1) := by rw [show (1 : Int32) = nI 1 from rfl, pk_sub (by omega)]
    refine ip_T (nI_pos' (by omega)) ⟨n, ?_⟩
    rw [en]
    have h1' := h1 (revF 6 (r + 1) (n - 1) (swF t r (aboveF t r (n - 1)))) (by unfold npF; rw [er])
    have fin : ∀ a, r ≤ a → a < n → aboveF t r (n - 1) = a → wX0_tryNext_73 Q (nI r) (nI a) (nI n) tr := by
      intro a ha1 ha2 ea
      unfold wX0_tryNext_73 wX0_swap
      rw [nI_clamp (by omega), nI_clamp (by omega), nI_1, en]
      have vl := vp_in_nI (show r < 6 by omega) (by omega)
      have vr := vp_in_nI (show a < 6 by omega) (by omega)
      rw [ea] at h1'
      exact ⟨vl, vr, vl, vr, 7, c_rev hn 6 (r + 1) (n - 1) _ _ (by omega) (by omega) (by omega) (hT.sw (by omega) ha2) h1'⟩
    have lp : ∀ (m a : Nat), a < m → r ≤ a → a < n → aboveF t r (n - 1) = aboveF t r a → wX0_tryNext_47 Q m (nI r) (nI a) (nI n) tr := by
      intro m
      induction m with
      | zero => intro a ha; omega
      | succ m ih =>
        intro a ha h3 h4 ea
        by_cases c : a ≤ r
        · have : a = r := by omega
          subst this
          refine ip_T (nI_le (Nat.le_refl _) (by omega)) (fin a (Nat.le_refl _) h4 ?_)
          rw [ea]
          cases a with
          | zero => rfl
          | succ a => unfold aboveF; rw [if_pos (Nat.le_refl _)]
        · obtain ⟨a', rfl⟩ : ∃ a', a = a' + 1 := ⟨a - 1, by omega⟩
          rw [aboveF_s t r a', if_neg c] at ea
          obtain ⟨e1, -⟩ := hT r (by omega)
          obtain ⟨e2, -⟩ := hT (a' + 1) h4
          obtain ⟨-, b1⟩ := hT r (by omega)
          obtain ⟨-, b2⟩ := hT (a' + 1) h4
          refine ip_F (nI_ge (by omega) (by omega)) ⟨vp_in_nI (by omega) (by omega), vp_in_nI (by omega) (by omega), ?_⟩
          rw [nI_clamp (by omega), nI_clamp (by omega), e1, e2, nI_leI (by omega) (by omega), pk_m1]
          refine ip_split (fun d => fin (a' + 1) h3 h4 (by rw [if_pos d] at ea; exact ea)) (fun d => ih a' (by omega) (by omega) (by omega) (by rw [if_neg d] at ea; exact ea))
    exact lp n (n - 1) (by omega) (by omega) (by omega) rfl
  have none' : riseF t (n - 1) = none → Q 0 tr := fun e => h0 (by unfold npF; rw [e])
  have neg : ∀ x : Int32, x < 0 → riseF t (n - 1) = none → wX0_tryNext_34 Q x (nI n) tr := fun x hx e => by
    unfold wX0_tryNext_34
    exact ip_F (fun q => by rw [ip_ltI] at hx; rw [ip_leI] at q; omega) (none' e)
  unfold wX0_tryNext
  by_cases c : n ≤ 1
  · have en : riseF t (n - 1) = none := by rw [show n - 1 = 0 by omega]; rfl
    have hx : nI n - 2 < 0 := by
      have : n = 0 ∨ n = 1 := by omega
      rcases this with e | e <;> subst e <;> decide
    exact ⟨1, ip_T hx (neg _ hx en)⟩
  · have e2 : nI n - 2 = nI (n - 2) := by rw [show (2 : Int32) = nI 2 from rfl, pk_sub (by omega)]
    rw [e2]
    refine ⟨n + 1, ?_⟩
    have lp : ∀ (m i : Nat), i + 1 < m → i + 1 < n → riseF t (n - 1) = riseF t (i + 1) → wX0_tryNext_7 Q m (nI i) (nI n) tr := by
      intro m
      induction m with
      | zero => intro i hi; omega
      | succ m ih =>
        intro i hi h3 er
        rw [riseF_s t i] at er
        obtain ⟨e1, b1⟩ := hT i (by omega)
        obtain ⟨e2, b2⟩ := hT (i + 1) (by omega)
        refine ip_F (nI_pos (by omega)) ⟨vp_in_nI (by omega) (by omega), ?_⟩
        rw [nI_1, nI_clamp (by omega), nI_clamp (by omega), e1, e2, nI_leI (by omega) (by omega)]
        refine ⟨vp_in_nI (by omega) (by omega), ip_split (fun d => body i h3 (by rw [if_pos d] at er; exact er)) (fun d => ?_)⟩
        rw [if_neg d] at er
        cases i with
        | zero =>
          have hx : nI 0 + -1 < 0 := by decide
          cases m with
          | zero => omega
          | succ m => exact ip_T hx (neg _ hx er)
        | succ i =>
          rw [pk_m1]
          exact ih i (by omega) (by omega) er
    exact lp (n + 1) (n - 2) (by omega) (by omega) (by rw [show n - 2 + 1 = n - 1 by omega])
/-- the best of some orders -/
def bst (co : Nat → Int32) : List Nat → Int32 → Nat → Int32 × Nat
  | [], l, b => (l, b)
  | c :: r, l, b => if co c < l then bst co r (co c) c else bst co r l b
theorem bst_s (co : Nat → Int32) (c : Nat) (r : List Nat) (l : Int32) (b : Nat) : bst co (c :: r) l b = if co c < l then bst co r (co c) c else bst co r l b := rfl
theorem bst_le {co : Nat → Int32} {l : Int32} {b : Nat} : ∀ r : List Nat, (∀ c, c ∈ r → ¬ co c < l) → bst co r l b = (l, b) := by
  intro r
  induction r with
  | nil => intro _; rfl
  | cons c r ih =>
    intro h
    unfold bst
    rw [if_neg (h c List.mem_cons_self)]
    exact ih (fun d hd => h d (List.mem_cons_of_mem _ hd))
def WH.co (w : WH) (x1 : Int32) (c : Nat) : Int32 := cw w.frm w.takes w.worth x1 (dig w.psize c) w.psize 0 0 0 0
theorem co_pos {w : WH} (W : WfW w) {x1 : Int32} {c : Nat} : ∃ q : Nat, q ≤ 1200000 ∧ w.co x1 c = nI q :=
  cw_pos W (fun k hk => dig_lt hk) w.psize 0 0 0 0 (by omega) (by omega) (by omega) (by omega)
theorem dig_TR {n c : Nat} {tr : Nat → Int32} (hn : n ≤ 6) (h : ∀ k, k < n → tr k = nI (dig n c k)) : TR n tr (dig n c) := fun k hk => ⟨h k hk, by have := dig_lt (w := c) hk; omega⟩
theorem c_settle_loop {Q : Int32 → Int32 → (Nat → Int32) → (Nat → Int32) → Prop} {w : WH} (W : WfW w) {x1 : Int32} (h : ∀ l b se tr, bst (w.co x1) ((csL w.psize).tail) (w.co x1 ((csL w.psize).headD 0)) ((csL w.psize).headD 0) = (l, b) → (∀ k, k < w.psize → se k = nI (dig w.psize b k)) → Q l (nI w.psize) se tr) : ∀ (m k c : Nat) (rest : List Nat) (l : Int32) (b : Nat) (se tr : Nat → Int32), rest.length < m → k + rest.length ≤ 720 → 1 ≤ k → stpOk w.psize c rest = true → (∀ j, j < w.psize → tr j = nI (dig w.psize c j)) → (∀ j, j < w.psize → se j = nI (dig w.psize b j)) → bst (w.co x1) rest l b = bst (w.co x1) ((csL w.psize).tail) (w.co x1 ((csL w.psize).headD 0)) ((csL w.psize).headD 0) → wX0_settle_35 Q m x1 l (nI k) (nI w.psize) (nI w.psize) w.frm se w.takes tr w.worth := by
  have hp := W.psize
  intro m
  induction m with
  | zero => intro k c rest l b se tr h1; omega
  | succ m ih =>
    intro k c rest l b se tr h1 h2 h3 hst htr hse hb
    have done : bst (w.co x1) rest l b = (l, b) → ∀ tr', Q l (nI w.psize) se tr' := fun e tr' => h l b se tr' (by rw [← hb, e]) hse
    refine ip_split (fun c7 => done ?_ _) (fun c7 => ip_split (fun c0 => done ?_ _) (fun c0 => ?_))
    · rw [show (720 : Int32) = nI 720 from rfl, nI_leI (by omega) (by omega)] at c7
      have : rest = [] := List.eq_nil_of_length_eq_zero (by omega)
      subst this; rfl
    · refine bst_le rest (fun d _ q => ?_)
      obtain ⟨z, hz, ez⟩ := co_pos W (x1 := x1) (c := d)
      rw [ez, ip_ltI, nI_toInt (by omega)] at q
      rw [ip_leI] at c0
      have : (0 : Int32).toInt = 0 := rfl
      omega
    · refine c_np hp (dig_TR hp htr) (fun en => ip_T rfl (done ?_ _)) (fun t' et tr' hT' => ip_F (by decide) ?_)
      · cases rest with
        | nil => rfl
        | cons c' r =>
          unfold stpOk at hst
          rw [en] at hst
          exact absurd hst (by simp)
      · cases rest with
        | nil =>
          unfold stpOk at hst
          rw [et] at hst
          exact absurd hst (by simp)
        | cons c' r =>
          unfold stpOk at hst
          rw [et, Bool.and_eq_true] at hst
          obtain ⟨s1, s2⟩ := hst
          have s1 := (sameD_iff w.psize).mp s1
          have htr' : ∀ j, j < w.psize → tr' j = nI (dig w.psize c' j) := fun j hj => by rw [(hT' j hj).1, s1 j hj]
          have hl : r.length + 1 < m + 1 := h1
          have hl2 : k + (r.length + 1) ≤ 720 := h2
          refine c_waiting hp (dig_TR hp htr') ?_
          show ((l ≤ w.co x1 c' → _) ∧ (¬ l ≤ w.co x1 c' → _))
          rw [bst_s _ c' r l b] at hb
          unfold wX0_settle_73
          rw [nI_1]
          refine ip_split (fun d => ?_) (fun d => ?_)
          · rw [if_neg (by rw [ip_ltI]; rw [ip_leI] at d; omega)] at hb
            exact ih (k + 1) c' r l b se tr' (by omega) (by omega) (by omega) s2 htr' hse hb
          · rw [if_pos (by rw [ip_ltI]; rw [ip_leI] at d; omega)] at hb
            unfold wX0_keepTried
            rw [show (0 : Int32).toNatClampNeg = 0 from rfl, show (6 : Int32).toNatClampNeg = 6 from rfl]
            exact ih (k + 1) c' r _ c' _ tr' (by omega) (by omega) (by omega) s2 htr' (fun j hj => by rw [cp0 (by omega)]; exact htr' j hj) hb
theorem c_settle {Q : Int32 → Int32 → (Nat → Int32) → (Nat → Int32) → Prop} {w : WH} (W : WfW w) {x1 ss : Int32} {se0 tr0 : Nat → Int32} (h : ∀ l b se tr, bst (w.co x1) ((csL w.psize).tail) (w.co x1 ((csL w.psize).headD 0)) ((csL w.psize).headD 0) = (l, b) → (∀ k, k < w.psize → se k = nI (dig w.psize b k)) → Q l (nI w.psize) se tr) : wX0_settle Q x1 (nI w.psize) ss w.frm se0 w.takes tr0 w.worth := by
  have hp := W.psize
  obtain ⟨r, er⟩ := cs_first w.psize (by omega)
  have hid := cs_id w.psize (by omega)
  have hnx := cs_nxt (n := w.psize) (by omega)
  have hln := cs_len w.psize (by omega)
  refine ⟨w.psize + 1, ?_⟩
  have lp : ∀ (m i : Nat) (tr : Nat → Int32), i + m = w.psize → (∀ k, k < i → tr k = nI k) → wX0_settle_2 Q (m + 1) x1 (nI i) (nI w.psize) ss w.frm se0 w.takes tr w.worth := by
    intro m
    induction m with
    | zero =>
      intro i tr hi ht
      have e : i = w.psize := by omega
      subst e
      have ht' : ∀ k, k < w.psize → tr k = nI (dig w.psize ((csL w.psize).headD 0) k) := fun k hk => by rw [hid k hk]; exact ht k hk
      refine ip_T (nI_le (Nat.le_refl _) (by omega)) (c_waiting hp (dig_TR hp ht') ?_)
      unfold wX0_keepTried
      rw [show (0 : Int32).toNatClampNeg = 0 from rfl, show (6 : Int32).toNatClampNeg = 6 from rfl]
      refine ⟨721, c_settle_loop W h 721 1 _ ((csL w.psize).tail) _ ((csL w.psize).headD 0) _ tr ?_ ?_ (by omega) ?_ ht' (fun j hj => by rw [cp0 (by omega)]; exact ht' j hj) rfl⟩
      · rw [List.length_tail]; omega
      · rw [List.length_tail]
        have : 0 < (csL w.psize).length := by rw [er]; exact Nat.succ_pos _
        omega
      · rw [er] at hnx
        have e2 : (csL w.psize).tail = r := by rw [er]; rfl
        rw [e2]
        exact hnx
    | succ m ih =>
      intro i tr hi ht
      refine ip_F (nI_ge (by omega) (by omega)) ⟨vp_in_nI (by omega) (by omega), ?_⟩
      rw [nI_clamp (by omega), nI_1]
      refine ih (i + 1) _ (by omega) (fun k hk => ?_)
      by_cases e : k = i
      · subst e; exact pk_us
      · rw [pk_un e]; exact ht k (by omega)
  exact lp w.psize 0 tr0 (by omega) (fun k hk => absurd hk (by omega))
