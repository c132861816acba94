/-! THE TAIL OF THE WORLD: images' cells and the pool; worlds up to the order of their cells -/
theorem pm_P {D : va_G} {cl : List vw_C} {ws ws' : va_W} {H : Heap} (h : va_P D cl ws H) (hp : ws.Perm ws') : va_P D cl ws' H := by
  intro k q hk
  obtain ⟨i, hi⟩ := List.getElem?_of_mem (hp.mem_iff.mpr (List.mem_of_getElem? hk))
  exact h i q hi
theorem pm_D {A : Nat → Prop} {ws ws' : va_W} (h : va_D A ws) (hp : ws.Perm ws') : va_D A ws' := by
  have h0 : ws.Pairwise (fun p q => p.1 ≠ q.1) := by
    rw [List.pairwise_iff_getElem]
    intro i j hi hj hij e
    have q := h.1 i j _ _ (List.getElem?_eq_getElem hi) (List.getElem?_eq_getElem hj) e
    omega
  have h1 : ws'.Pairwise (fun p q => p.1 ≠ q.1) := h0.perm hp (fun e f => e f.symm)
  rw [List.pairwise_iff_getElem] at h1
  refine ⟨fun i j p q hi hj e => ?_, fun k q hk => ?_⟩
  · obtain ⟨li, ei⟩ := List.getElem?_eq_some_iff.mp hi
    obtain ⟨lj, ej⟩ := List.getElem?_eq_some_iff.mp hj
    rcases Nat.lt_trichotomy i j with c | c | c
    · exact absurd (by rw [ei, ej]; exact e) (h1 i j li lj c)
    · exact c
    · exact absurd (by rw [ei, ej]; exact e.symm) (h1 j i lj li c)
  · obtain ⟨i, hi⟩ := List.getElem?_of_mem (hp.mem_iff.mpr (List.mem_of_getElem? hk))
    exact h.2 i q hi
def tlI (I : Nat → va_W) (PL : va_W) : va_W := I 0 ++ (I 1 ++ (I 2 ++ PL))
def imI (I : Nat → va_W) : va_W := I 0 ++ (I 1 ++ I 2)
def upI (I : Nat → va_W) (k : Nat) (J : va_W) : Nat → va_W := fun j => if j = k then J else I j
theorem upI_at {I : Nat → va_W} {k : Nat} {J : va_W} : upI I k J k = J := if_pos rfl
theorem upI_ne {I : Nat → va_W} {k j : Nat} {J : va_W} (h : j ≠ k) : upI I k J j = I j := if_neg h
theorem upI_self {I : Nat → va_W} {k : Nat} : upI I k (I k) = I := by
  funext j
  by_cases e : j = k
  · subst e; exact upI_at
  · exact upI_ne e
theorem tl_IM {I : Nat → va_W} {PL : va_W} : tlI I PL = imI I ++ PL := by
  unfold tlI imI
  rw [List.append_assoc, List.append_assoc]
theorem tl_put {I : Nat → va_W} {PL J : va_W} {k : Nat} (hk : k < 3) : (J ++ tlI (upI I k []) PL).Perm (tlI (upI I k J) PL) := by
  unfold tlI
  rcases (show k = 0 ∨ k = 1 ∨ k = 2 by omega) with rfl | rfl | rfl
  · rw [upI_at, upI_at, upI_ne (by omega), upI_ne (by omega), upI_ne (by omega), upI_ne (by omega), List.nil_append]
  · rw [upI_at, upI_at, upI_ne (by omega), upI_ne (by omega), upI_ne (by omega), upI_ne (by omega), List.nil_append]
    exact List.perm_append_comm_assoc _ _ _
  · rw [upI_at, upI_at, upI_ne (by omega), upI_ne (by omega), upI_ne (by omega), upI_ne (by omega), List.nil_append]
    exact (List.perm_append_comm_assoc _ _ _).trans ((List.perm_append_comm_assoc _ _ _).append_left _)
theorem tl_pool {I : Nat → va_W} {PL NI : va_W} : (NI ++ tlI I PL).Perm (tlI I (NI ++ PL)) := by
  unfold tlI
  exact (List.perm_append_comm_assoc _ _ _).trans (((List.perm_append_comm_assoc _ _ _).trans ((List.perm_append_comm_assoc _ _ _).append_left _)).append_left _)
theorem tl_om {cI : ClassId} {om : Nat → Option OR} {I : Nat → va_W} {PL : va_W} (h : ∀ a r, om a = some r → OrdAt cI PL a r) : ∀ a r, om a = some r → OrdAt cI (tlI I PL) a r := fun a r e => OrdAt.back (OrdAt.back (OrdAt.back (h a r e)))
theorem wI_out {D : va_G} {cl : List vw_C} {X : va_W} {I : Nat → va_W} {PL J : va_W} {k : Nat} {H : Heap} (hk : k < 3) (e : I k = J) (h : va_P D cl (X ++ tlI I PL) H) : va_P D cl (X ++ (J ++ tlI (upI I k []) PL)) H := by
  refine pm_P h (List.Perm.append_left X ?_)
  have q := tl_put (I := I) (PL := PL) (J := J) hk
  rw [← e, upI_self] at q
  rw [← e]
  exact q.symm
theorem dI_out {A : Nat → Prop} {X : va_W} {I : Nat → va_W} {PL J : va_W} {k : Nat} (hk : k < 3) (e : I k = J) (h : va_D A (X ++ tlI I PL)) : va_D A (X ++ (J ++ tlI (upI I k []) PL)) := by
  refine pm_D h (List.Perm.append_left X ?_)
  have q := tl_put (I := I) (PL := PL) (J := J) hk
  rw [← e, upI_self] at q
  rw [← e]
  exact q.symm
theorem wI_put {D : va_G} {cl : List vw_C} {X : va_W} {I : Nat → va_W} {PL J : va_W} {k : Nat} {H : Heap} (hk : k < 3) (h : va_P D cl (X ++ (J ++ tlI (upI I k []) PL)) H) : va_P D cl (X ++ tlI (upI I k J) PL) H := pm_P h (List.Perm.append_left X (tl_put hk))
theorem dI_put {A : Nat → Prop} {X : va_W} {I : Nat → va_W} {PL J : va_W} {k : Nat} (hk : k < 3) (h : va_D A (X ++ (J ++ tlI (upI I k []) PL))) : va_D A (X ++ tlI (upI I k J) PL) := pm_D h (List.Perm.append_left X (tl_put hk))
/-! a call that has the pool, but not the images' cells that stand between -/
theorem mp_app {X cx IM : va_W} {is : List Nat} (h : is.map (fun i => X[i]?) = cx.map some) : is.map (fun i => (X ++ IM)[i]?) = cx.map some := by
  rw [← h]
  refine List.map_congr_left (fun i hi => ?_)
  obtain ⟨k, hk⟩ := List.getElem?_of_mem hi
  have q : (is.map (fun i => X[i]?))[k]? = some X[i]? := by rw [List.getElem?_map, hk]; rfl
  rw [h, List.getElem?_map] at q
  cases e : cx[k]? with
  | none => rw [e] at q; cases q
  | some z =>
    rw [e] at q
    have q1 : some z = X[i]? := Option.some.inj q
    exact List.getElem?_append_left (List.getElem?_eq_some_iff.mp q1.symm).1
theorem partI_P {D : va_G} {cl : List vw_C} {X cx IM pl : va_W} {H : Heap} (h : va_P D cl (X ++ (IM ++ pl)) H) (is : List Nat) (hs : is.map (fun i => X[i]?) = cx.map some) : va_P D cl (cx ++ pl) H := by
  rw [← List.append_assoc] at h
  exact h.part is (mp_app hs)
theorem partI_D {A : Nat → Prop} {X cx IM pl : va_W} (h : va_D A (X ++ (IM ++ pl))) (is : List Nat) (hn : va_nd is = true) (hs : is.map (fun i => X[i]?) = cx.map some) : va_D A (cx ++ pl) := by
  rw [← List.append_assoc] at h
  exact h.part is hn (mp_app hs)
theorem freeI {A0 : Nat → Prop} {X cx IM pl : va_W} {H0 H : Heap} {locs : List Loc} (hD : va_D A0 (X ++ (IM ++ pl))) (hS : va_S A0 H0 H locs) (hA : ∀ q, H0.size ≤ q → A0 q) (isC : List Nat) (hC : isC.map (fun i => X[i]?) = cx.map some) : ∀ q, va_A (cx ++ pl) H.size q → A0 q := by
  rw [← List.append_assoc] at hD
  exact va_freeP hD hS hA isC (mp_app hC)
theorem nd_app : ∀ (l r : List Nat), va_nd l = true → va_nd r = true → (∀ i ∈ l, i ∉ r) → va_nd (l ++ r) = true
  | [], r, _, h2, _ => h2
  | a :: l, r, h1, h2, h3 => by
    simp only [va_nd, Bool.and_eq_true, decide_eq_true_eq] at h1
    show va_nd (a :: (l ++ r)) = true
    simp only [va_nd, Bool.and_eq_true, decide_eq_true_eq]
    refine ⟨fun e => ?_, nd_app l r h1.2 h2 (fun i hi => h3 i (List.mem_cons_of_mem _ hi))⟩
    rcases List.mem_append.mp e with q | q
    · exact h1.1 q
    · exact h3 a List.mem_cons_self q
def rgI (n : Nat) : Nat → List Nat
  | 0 => []
  | k + 1 => n :: rgI (n + 1) k
theorem rgI_ge : ∀ (k n i : Nat), i ∈ rgI n k → n ≤ i
  | 0, _, _, h => by cases h
  | k + 1, n, i, h => by
    rcases List.mem_cons.mp h with q | q
    · omega
    · have := rgI_ge k (n + 1) i q
      omega
theorem rgI_nd : ∀ (k n : Nat), va_nd (rgI n k) = true
  | 0, _ => rfl
  | k + 1, n => by
    show va_nd (n :: rgI (n + 1) k) = true
    simp only [va_nd, Bool.and_eq_true, decide_eq_true_eq]
    exact ⟨fun e => by have := rgI_ge k (n + 1) n e; omega, rgI_nd k (n + 1)⟩
theorem rgI_map : ∀ (IM X : va_W), (rgI X.length IM.length).map (fun i => (X ++ IM)[i]?) = IM.map some
  | [], _ => rfl
  | q :: IM, X => by
    show (X ++ q :: IM)[X.length]? :: (rgI (X.length + 1) IM.length).map (fun i => (X ++ q :: IM)[i]?) = some q :: IM.map some
    have h := rgI_map IM (X ++ [q])
    rw [List.append_assoc, List.length_append] at h
    rw [List.getElem?_append_right (Nat.le_refl _), Nat.sub_self]
    exact congrArg (some q :: ·) h
theorem lt_of_mp {X cx : va_W} {is : List Nat} (h : is.map (fun i => X[i]?) = cx.map some) : ∀ i ∈ is, i < X.length := by
  intro i hi
  obtain ⟨k, hk⟩ := List.getElem?_of_mem hi
  have q : (is.map (fun i => X[i]?))[k]? = some X[i]? := by rw [List.getElem?_map, hk]; rfl
  rw [h, List.getElem?_map] at q
  cases e : cx[k]? with
  | none => rw [e] at q; cases q
  | some z =>
    rw [e] at q
    have q1 : some z = X[i]? := Option.some.inj q
    exact (List.getElem?_eq_some_iff.mp q1.symm).1
theorem joinI {A0 : Nat → Prop} {D : va_G} {cl : List vw_C} {tys : List (ClassId × FieldType)} {X cx wr rx IM pl pl1 : va_W} {H H1 : Heap} {t : State} (hB : va_P D cl (rx ++ pl1) t.heap ∧ va_K D cl tys t ∧ va_D (va_A (cx ++ pl) H.size) (rx ++ pl1)) (ht : t.heap = H1) (hP : va_P D cl (X ++ (IM ++ pl)) H) (hD : va_D A0 (X ++ (IM ++ pl))) (isC isR : List Nat) (hC : isC.map (fun i => X[i]?) = cx.map some) (hR : isR.map (fun i => X[i]?) = wr.map some) (hn : va_nd isR = true) (hdis : ∀ i ∈ isR, i ∉ isC)
    (hk : ∀ q : Nat, q < H.size → ¬ va_A (cx ++ pl) H.size q → H1[q]? = H[q]?) (hF : ∀ q, va_A (cx ++ pl) H.size q → A0 q) : va_P D cl ((wr ++ rx) ++ (IM ++ pl1)) H1 ∧ va_D A0 ((wr ++ rx) ++ (IM ++ pl1)) := by
  rw [← List.append_assoc] at hP hD
  have hR' : (isR ++ rgI X.length IM.length).map (fun i => (X ++ IM)[i]?) = (wr ++ IM).map some := by
    rw [List.map_append, List.map_append, mp_app hR, rgI_map]
  have hn' : va_nd (isR ++ rgI X.length IM.length) = true := by
    refine nd_app _ _ hn (rgI_nd _ _) (fun i hi e => ?_)
    have q1 := lt_of_mp hR i hi
    have q2 := rgI_ge _ _ _ e
    omega
  have hdis' : ∀ i ∈ isR ++ rgI X.length IM.length, i ∉ isC := by
    intro i hi e
    rcases List.mem_append.mp hi with q | q
    · exact hdis i q e
    · have q1 := lt_of_mp hC i e
      have q2 := rgI_ge _ _ _ q
      omega
  obtain ⟨h1, h2⟩ := af_joinR hB ht hP hD isC (isR ++ rgI X.length IM.length) (mp_app hC) hR' hn' hdis' hk hF
  have hp : (((wr ++ IM) ++ rx) ++ pl1).Perm ((wr ++ rx) ++ (IM ++ pl1)) := by
    rw [List.append_assoc, List.append_assoc, List.append_assoc]
    refine List.Perm.append_left wr ?_
    exact List.perm_append_comm_assoc _ _ _
  exact ⟨pm_P h1 hp, pm_D h2 hp⟩
