/-! RUNNING: new objects as instructions; chains -/
theorem kQ_tr {C : kC} {W V : kW} {fr : List Nat} {T t c c' d : Nat} {ts : List Nat} {ur uc vr vc a b : zMu} {rr : Int32} (q : kQ C fr T t c V vr vc rr a () b) (hr : fT tgR ts ur vr) (hc : fT tgC ts uc vc) (q1 : ∀ t, t ∈ ts → t ∈ tall) (q2 : ¬ 12 ∈ ts) (hw : wM V + wP V ≤ wM W + wP W + c') (hd : c + c' ≤ d) : kQ C fr T t d W ur uc rr a () b := by
  obtain ⟨y1, y2, y3⟩ := q
  refine ⟨fT_tr (fT_mono hr q1) y1, fT_tr (fT_mono hc q1) y2, ?_⟩
  rcases y3 with ⟨z1, z2, z3, V', z4, z5⟩ | z
  · exact Or.inl ⟨z1, z2.trans (fT_i hc q2 (show tgC 34 17 = 12 from rfl)), z3.trans (fT_i hc q2 (show tgC 34 13 = 12 from rfl)), V', by omega, z5⟩
  · exact Or.inr z
/-- the state with the stack popped -/
theorem kGd_pop {C : kC} {W : kW} {fr : List Nat} {T t k : Nat} {ur uc vr uk : zMu} (h : kGd C W fr T t ur uc) (hk : k ≤ t) (ev : zsI ur 0 51 (nI k) = vr) (ek : zsI uc 34 8 (nI k) = uk) : kGd C W fr T k vr uk := by
  have s0 := kSt_pop h.2.1 (k := k) hk
  rw [ev, ek] at s0
  have fr1 : fT tgR [1] ur vr := by rw [← ev]; exact popR _ _
  have fc1 : fT tgC [1] uc uk := by rw [← ek]; exact popC _ _
  exact ⟨⟨fT_tr h.1.1 (fT_mono fr1 (by decide)), fT_tr h.1.2 (fT_mono fc1 (by decide))⟩, s0, kVa_k h.2.2.1 fr1 fc1 (by decide), kFr_k h.2.2.2.1 fr1 fc1 (by decide), kOt_k h.2.2.2.2 fr1 fc1 (fun t a b => by simp; omega)⟩
theorem o_newC (n : Nat) (hn : 20000 ≤ n) {C : kC} (P : kPs C) {W : kW} {fr : List Nat} {T k c : Nat} {ur uc : zMu} (h : kGd C W fr T k ur uc) (hk : k < 780) {q : Nat} (hq : q ≤ wO W) (v2 : Int32) : Rp (rf_news_J63 n ur v2 (iP q)) (ce_M_makeObject_J63 n uc v2 (iP q)) (kQ C fr T (k + 1) c W ur uc) := by
  obtain ⟨hPp, hOb, hMb, hSh, hRw, hSi, hFn, hCt⟩ := h.2.2.2.2
  have o2 := hOb.1
  by_cases z : wO W = 200
  · have er : rf_news_J63 n ur v2 (iP q) = rf_fails n ur 6 v2 := by
      unfold rf_news_J63
      rw [hOb.2.1, z, if_pos (show nI 200 = (200 : Int32) from rfl), zbd_i]
    have ec : ce_M_makeObject_J63 n uc v2 (iP q) = ce_M_fail n uc 6 v2 := by
      unfold ce_M_makeObject_J63
      have : ce_H_addObject n uc (iP q) = some (-1, uc) := by
        unfold ce_H_addObject
        rw [hOb.2.2.1, z, if_neg (by decide)]
      rw [zbd_e this, if_pos rfl, zbd_u]
    rw [er, ec]
    exact kQ_f n h (fT_rf _ _ _) (fT_rf _ _ _) 6 v2
  · obtain ⟨V, vr, vc, er, ec, F, G, le, e1, e2, e3, e4, e5, k1, k2, k3⟩ := k_addO n hn (C := C) hOb hMb hSh (h.dy P) (by omega) hq
    rw [er v2]
    unfold ce_M_makeObject_J63
    refine rp_r ec (rp_rf (nI_m1 (by omega)) ?_)
    rw [zbd_u, nI_l (show wO W < 2 ^ 31 by omega)]
    have hp : ∀ o, o < wO W → wp W o ≤ o := fun o ho => (hOb.2.2.2 o ho).1
    have g : kGd C V fr T k vr vc := ⟨⟨fT_tr h.1.1 (fT_mono F (by decide)), fT_tr h.1.2 (fT_mono G (by decide))⟩, kSt_m (kSt_k h.2.1 F G (by decide)) le.1 le.2.1, kVa_m (kVa_k h.2.2.1 F G (by decide)) le.1 le.2.1, kFr_k h.2.2.2.1 F G (by decide), kPp_m (kPp_k hPp F G (by decide)) le e4, k1, k2, k3, kRw_m (kRw_k hRw F G (by decide)) le e2, kSi_m (kSi_k hSi F G (by decide)) le hp e5, kFn_m (kFn_k hFn F G (by decide)) e5, kCt_k hCt F G (by decide)⟩
    refine rp_mono (o_push n P (c := 0) g hk (sr := 2) (xr := lN (wO W)) (s := 3) (xc := lN (wO W)) (by omega) (Or.inr (Or.inr (Or.inl ⟨rfl, rfl, rfl, wO W, by omega, rfl⟩)))) (fun rr a _ b q => ?_)
    exact kQ_tr q F G (by decide) (by decide) (c' := 0) (by omega) (by omega)
theorem o_new1 (n : Nat) (hn : 20000 ≤ n) {C : kC} (P : kPs C) {W : kW} {fr : List Nat} {T k c : Nat} {ur uc : zMu} (h : kGd C W fr T (k + 1) ur uc) (v2 : Int32) : Rp (rf_news n ur 1 v2) (ce_M_makeObject n uc v2) (kQ C fr T (k + 1) c W ur uc) := by
  have t8 := h.t8
  have hv := h.v (show k < k + 1 by omega)
  obtain ⟨vr, ev, i51, i27, l31, fr1, iO, lO⟩ := pop_r h k
  obtain ⟨uk, ek, k8, p1, p2, p3, fc1, kd⟩ := pop_c P h k
  have g := kGd_pop h (k := k) (by omega) ev ek
  have fin : ∀ q, q ≤ wO W → Rp (rf_news_J63 n vr v2 (iP q)) (ce_M_makeObject_J63 n uk v2 (iP q)) (kQ C fr T (k + 1) c W ur uc) := fun q hq => rp_mono (o_newC n hn P (c := c) g (by omega) hq v2) (fun rr a _ b y => kQ_tr y fr1 fc1 (by decide) (by decide) (c' := 0) (by omega) (by omega))
  unfold rf_news ce_M_makeObject
  rw [if_pos rfl, h.tr, h.tc, nI_pred, ev, ek]
  refine rp_ll (rp_rl ?_)
  rw [i51, k8, zx_nI (show k < 2 ^ 31 by omega), i27, l31]
  refine rp_lg (zin_nI (by omega) (by decide)) (rp_r (v_sortAt n p1 (j := k) (by omega)) ?_)
  rw [p2]
  rcases vR_obj hv with ⟨b1, b2, o, ho, b3, b4⟩ | ⟨b1, b2⟩
  · refine rp_lt b1 (rp_lg (zin_nI (by omega) (by decide)) (rp_ll (rp_rt b2 ?_)))
    unfold ce_M_makeObject_J38
    rw [b3, lN_i, k8]
    refine rp_rt b2 (rp_r (v_numberAt n p1 (j := k) (by omega)) ?_)
    rw [p3, b4, lN_i, ← iP_s]
    exact fin (o + 1) (by omega)
  · refine rp_lf b1 (rp_lg (zin_nI (by omega) (by decide)) (rp_rf b2 ?_))
    by_cases z : zI ur 27 k = 0
    · have z2 : vS 75 uc k = 0 := by
        rcases hv with ⟨-, y, -⟩ | ⟨y, -⟩ | ⟨y, -⟩ | ⟨y, -⟩
        · exact y
        · rw [z] at y; exact absurd y (by decide)
        · rw [z] at y; exact absurd y (by decide)
        · rw [z] at y; exact absurd y (by decide)
      refine rp_lt z (rp_rt z2 ?_)
      unfold ce_M_makeObject_J38
      rw [z2]
      exact rp_rf (by decide) (fin 0 (by omega))
    · have z2 : ¬ vS 75 uc k = 0 := by
        rcases hv with ⟨y, -⟩ | ⟨-, -, ⟨-, y⟩ | ⟨-, y⟩⟩ | ⟨-, y, -⟩ | ⟨-, y, -⟩
        · exact absurd y z
        · rw [y]; decide
        · rw [y]; decide
        · rw [y]; decide
        · rw [y]; decide
      refine rp_lf z (rp_rf z2 ?_)
      rw [zbd_i, zbd_u]
      exact kQ_f n h fr1 fc1 2 v2
/-- the reference makes an object without a parent; the class has pushed nothing ahead of it -/
theorem o_new0 (n : Nat) (hn : 20000 ≤ n) {C : kC} (P : kPs C) {W : kW} {fr : List Nat} {T t c : Nat} {ur uc v : zMu} (h : kGd C W fr T t ur uc) (ht : t < 780) (f : fT tgC [1, 12] uc v) (i8 : zI v 34 8 = nI (t + 1)) (vw : pVw 75 780 v) (s1 : ∀ j, j < t → vS 75 v j = vS 75 uc j) (s2 : ∀ j, j < t → vX 75 v j = vX 75 uc j) (s3 : vS 75 v t = 0) (v2 : Int32) : Rp (rf_news n ur 0 v2) (ce_M_makeObject n v v2) (kQ C fr T (t + 1) c W ur v) := by
  obtain ⟨uk, ek⟩ : ∃ uk, zsI v 34 8 (nI t) = uk := ⟨_, rfl⟩
  obtain ⟨p1, p2, p3⟩ := popV (nI t) vw
  rw [ek] at p1 p2 p3
  have fc : fT tgC [1] v uk := by rw [← ek]; exact popC _ _
  have fcu : fT tgC [1, 12] uc uk := fT_tr f (fT_mono fc (by decide))
  have R := fT_rf tgR [1, 12] ur
  have g : kGd C W fr T t ur uk := by
    refine ⟨⟨h.1.1, fT_tr h.1.2 (fT_mono fcu (by decide))⟩, ⟨h.tr, by rw [← ek]; rfl, h.t8, p1, fun j hj => ?_⟩, kVa_k h.2.2.1 R fcu (by decide), kFr_k h.2.2.2.1 R fcu (by decide), kOt_k h.2.2.2.2 R fcu (fun t a b => by simp; omega)⟩
    rw [p2, p3, s1 j hj, s2 j hj]
    exact h.v hj
  unfold rf_news ce_M_makeObject
  rw [if_neg (show ¬ (0 : Int32) = 1 from by decide), i8, nI_pred, ek]
  refine rp_rl ?_
  rw [show zI uk 34 8 = nI t from by rw [← ek]; rfl]
  refine rp_r (v_sortAt n p1 (j := t) (by omega)) ?_
  rw [p2, s3]
  refine rp_rf (by decide) (rp_rt rfl ?_)
  unfold ce_M_makeObject_J38
  refine rp_rf (by decide) ?_
  exact rp_mono (o_newC n hn P (c := c) g ht (q := 0) (by omega) v2) (fun rr a _ b y => kQ_tr y (fT_rf tgR [1] ur) fc (by decide) (by decide) (c' := 0) (by omega) (by omega))
/-! chains -/
theorem kLa_app (l : List Nat) (c : Nat) : kLa (l ++ [c]) = nI c := by
  unfold kLa
  rw [List.getLast?_append]
  simp
theorem kLa_nil : kLa [] = -1 := rfl
theorem kCh_app {f g : Nat → Int32} {c : Nat} (hc : g c = -1) : ∀ (l : List Nat) (h : Int32), kCh f h l → ¬ c ∈ l → l.Nodup → (∀ z, z ∈ l → ¬ some z = l.getLast? → g z = f z) → (∀ z, l.getLast? = some z → g z = nI c) → kCh g (if l = [] then nI c else h) (l ++ [c]) := by
  intro l
  induction l with
  | nil =>
    intro h _ _ _ _ _
    rw [if_pos rfl]
    exact ⟨rfl, hc⟩
  | cons a l ih =>
    intro h q h1 h2 h3 h4
    rw [if_neg (by simp)]
    refine ⟨q.1, ?_⟩
    rw [List.nodup_cons] at h2
    show kCh g (g a) (l ++ [c])
    by_cases z : l = []
    · subst z
      rw [h4 a (by simp)]
      exact ⟨rfl, hc⟩
    · have ga : g a = f a := h3 a (by simp) (fun y => by
        rw [List.getLast?_cons_of_ne_nil z] at y
        exact h2.1 (List.mem_of_getLast? y.symm))
      have := ih (f a) q.2 (fun y => h1 (by simp [y])) h2.2 (fun z' hz' y => h3 z' (by simp [hz']) (fun y' => y (by rw [List.getLast?_cons_of_ne_nil z] at y'; exact y'))) (fun z' hz' => h4 z' (by rw [List.getLast?_cons_of_ne_nil z]; exact hz'))
      rw [if_neg z] at this
      rw [ga]
      exact this
/-- names come from the sites -/
theorem names_le {f : Nat → Int32} : ∀ (n : Nat) (l : List Nat), l.Nodup → (∀ x, x ∈ l → x < 2 ^ 31) → (∀ x, x ∈ l → ∃ s, s < n ∧ f s = nI x) → l.length ≤ n := by
  intro n
  induction n with
  | zero =>
    intro l _ _ h
    cases l with
    | nil => exact Nat.le_refl _
    | cons a l =>
      obtain ⟨s, s1, -⟩ := h a (by simp)
      exact absurd s1 (by omega)
  | succ n ih =>
    intro l hl hb h
    by_cases z : ∃ x, x ∈ l ∧ f n = nI x
    · obtain ⟨x, x1, x2⟩ := z
      have := ih (l.erase x) (hl.erase x) (fun y hy => hb y ((hl.mem_erase_iff).mp hy).2) (fun y hy => by
        have h1 := (hl.mem_erase_iff).mp hy
        obtain ⟨s, s1, s2⟩ := h y h1.2
        refine ⟨s, ?_, s2⟩
        by_cases e : s = n
        · subst e
          exact absurd ((nI_eq (hb y h1.2) (hb x x1)).mp (s2.symm.trans x2)) h1.1
        · exact Nat.lt_of_le_of_ne (Nat.le_of_lt_succ s1) e)
      rw [List.length_erase_of_mem x1] at this
      have : 0 < l.length := List.length_pos_of_mem x1
      omega
    · have := ih l hl hb (fun x hx => by
        obtain ⟨s, s1, s2⟩ := h x hx
        refine ⟨s, ?_, s2⟩
        by_cases e : s = n
        · subst e
          exact absurd ⟨x, hx, s2⟩ z
        · exact Nat.lt_of_le_of_ne (Nat.le_of_lt_succ s1) e)
      exact Nat.le_succ_of_le this
