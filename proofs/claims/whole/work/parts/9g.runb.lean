/-! RUNNING: tags of cells (which part of the state a cell belongs to), frames by tags -/
def rtR (a : Nat) : Nat := if a = 27 then 1 else if a = 31 then 1 else if a = 28 then 2 else if a = 32 then 2 else if a = 29 then 3 else if a = 30 then 3 else if a = 33 then 4 else if a = 34 then 4 else if a = 35 then 5 else if a = 36 then 7 else if a = 37 then 6 else if a = 38 then 6 else if a = 39 then 6 else if a = 40 then 6 else if a = 41 then 6 else if a = 42 then 6 else if a = 43 then 6 else if a = 44 then 7 else if a = 45 then 7 else if a = 46 then 7 else if a = 47 then 7 else if a = 48 then 8 else if a = 49 then 8 else if a = 50 then 8 else if a = 51 then 8 else if a = 52 then 9 else if a = 53 then 9 else if a = 54 then 9 else if a = 55 then 9 else if a = 56 then 9 else if a = 57 then 9 else if a = 58 then 9 else if a = 59 then 9 else if a = 60 then 9 else if a = 61 then 10 else if a = 62 then 10 else if a = 63 then 10 else if a = 64 then 10 else if a = 65 then 10 else if a = 66 then 10 else if a = 67 then 10 else 0
def r0R (j : Nat) : Nat := if j = 51 then 1 else if j = 52 then 3 else if j = 53 then 11 else if j = 54 then 11 else if j = 55 then 11 else if j = 56 then 11 else if j = 57 then 5 else if j = 58 then 7 else if j = 59 then 8 else if j = 60 then 4 else if j = 61 then 7 else if j = 62 then 9 else if j = 63 then 9 else if j = 64 then 9 else if j = 65 then 10 else if j = 66 then 10 else if j = 67 then 8 else if j = 68 then 11 else if j = 80 then 6 else 0
def tgR (a j : Nat) : Nat := if a = 0 then r0R j else rtR a
def rtC (a : Nat) : Nat := if a = 35 then 3 else if a = 37 then 7 else if a = 38 then 5 else if a = 39 then 6 else if a = 40 then 6 else if a = 41 then 6 else if a = 42 then 5 else if a = 43 then 7 else if a = 44 then 7 else if a = 45 then 8 else if a = 46 then 8 else if a = 47 then 8 else if a = 48 then 8 else if a = 49 then 9 else if a = 50 then 9 else if a = 51 then 9 else if a = 52 then 9 else if a = 53 then 9 else if a = 54 then 9 else if a = 55 then 9 else if a = 56 then 9 else if a = 57 then 9 else if a = 58 then 9 else if a = 59 then 10 else if a = 60 then 10 else if a = 61 then 10 else if a = 62 then 10 else if a = 63 then 10 else if a = 64 then 10 else if a = 65 then 10 else if a = 66 then 6 else if a = 67 then 6 else if a = 68 then 6 else if a = 69 then 8 else if a = 70 then 8 else if a = 71 then 8 else if a = 72 then 4 else if a = 73 then 4 else if a = 74 then 4 else if a = 75 then 1 else if a = 76 then 1 else if a = 77 then 1 else if a = 78 then 2 else if a = 79 then 2 else if a = 80 then 2 else if a = 81 then 7 else if a = 82 then 7 else if a = 83 then 7 else if a = 84 then 7 else if a = 85 then 7 else if a = 86 then 7 else if a = 87 then 7 else if a = 88 then 6 else if a = 89 then 6 else 0
def r34C (j : Nat) : Nat := if j = 5 then 4 else if j = 8 then 1 else if j = 11 then 3 else if j = 12 then 11 else if j = 13 then 12 else if j = 15 then 11 else if j = 16 then 11 else if j = 17 then 12 else if j = 18 then 11 else if j = 19 then 11 else 0
def r36C (j : Nat) : Nat := if j = 7 then 5 else if j = 8 then 7 else if j = 12 then 6 else if j = 13 then 6 else 0
def tgC (a j : Nat) : Nat := if a = 34 then r34C j else if a = 36 then r36C j else rtC a
/-- what growing rows may have cost: arrays, elements -/
def pA (u : zMu) : Nat := 2 * (zN u 67 + zN u 70 + zN u 73 + zN u 76 + zN u 79 + zN u 88) + 7 * zN u 81
def pB (u : zMu) : Nat := 2 * (vP 16000 (zN u 67) + vP 3000 (zN u 70) + vP 200 (zN u 73) + vP 780 (zN u 76) + vP 156 (zN u 79)) + 4 * zN u 88 + 7 * vP 1800 (zN u 81)
/-- the stack and the variables stay well -/
def vKp (u w : zMu) : Prop := (pVw 75 780 u → pVw 75 780 w) ∧ (pVw 78 156 u → zN u 79 = 156 → pVw 78 156 w ∧ zN w 79 = 156)
theorem vKp_rf (u : zMu) : vKp u u := ⟨id, fun a b => ⟨a, b⟩⟩
theorem vKp_tr {u v w : zMu} (h : vKp u v) (k : vKp v w) : vKp u w := ⟨fun q => k.1 (h.1 q), fun a b => k.2 (h.2 a b).1 (h.2 a b).2⟩
theorem vKp_s {u w : zMu} (h : ∀ a j, a = 75 ∨ a = 76 ∨ a = 78 ∨ a = 79 → zI w a j = zI u a j) (k : ∀ a, a = 76 ∨ a = 77 ∨ a = 79 ∨ a = 80 → zN w a = zN u a) : vKp u w := ⟨fun q => pVw_keep q (h 75 0 (by omega)) (fun j => h 76 j (by omega)) (k 76 (by omega)) (k 77 (by omega)), fun q z => ⟨pVw_keep q (h 78 0 (by omega)) (fun j => h 79 j (by omega)) (k 79 (by omega)) (k 80 (by omega)), (k 79 (by omega)).trans z⟩⟩
/-- from u to w only cells with a tag of ts changed -/
def fT (tg : Nat → Nat → Nat) (ts : List Nat) (u w : zMu) : Prop := (∀ a j, ¬ tg a j ∈ ts → zI w a j = zI u a j) ∧ (∀ a j, ¬ tg a 0 ∈ ts → zL w a j = zL u a j) ∧ w.2.2.1 = u.2.2.1 ∧ (∀ a, ¬ tg a 0 ∈ ts → zN w a = zN u a) ∧ (zc w).1 + pA u ≤ (zc u).1 + pA w ∧ (zc w).2 + pB u ≤ (zc u).2 + pB w ∧ vKp u w
theorem fT_rf (tg : Nat → Nat → Nat) (ts : List Nat) (u : zMu) : fT tg ts u u := ⟨fun _ _ _ => rfl, fun _ _ _ => rfl, rfl, fun _ _ => rfl, Nat.le_refl _, Nat.le_refl _, vKp_rf _⟩
theorem fT_tr {tg : Nat → Nat → Nat} {ts : List Nat} {u v w : zMu} (h : fT tg ts u v) (k : fT tg ts v w) : fT tg ts u w := by
  obtain ⟨a1, a2, a3, a4, a5, a6, a7⟩ := h
  obtain ⟨b1, b2, b3, b4, b5, b6, b7⟩ := k
  exact ⟨fun a j q => (b1 a j q).trans (a1 a j q), fun a j q => (b2 a j q).trans (a2 a j q), b3.trans a3, fun a q => (b4 a q).trans (a4 a q), by omega, by omega, vKp_tr a7 b7⟩
theorem fT_mono {tg : Nat → Nat → Nat} {ts ts' : List Nat} {u w : zMu} (h : fT tg ts u w) (k : ∀ t, t ∈ ts → t ∈ ts') : fT tg ts' u w := by
  obtain ⟨a1, a2, a3, a4, a5, a6⟩ := h
  exact ⟨fun a j q => a1 a j (fun z => q (k _ z)), fun a j q => a2 a j (fun z => q (k _ z)), a3, fun a q => a4 a (fun z => q (k _ z)), a5, a6⟩
theorem fT_I {tg : Nat → Nat → Nat} {ts : List Nat} {u w : zMu} (h : fT tg ts u w) {a j : Nat} (x : Int32) (t : Nat) (e : tg a j = t) (q : t ∈ ts) (hz : a < 75 ∨ 80 < a := by first | decide | omega) : fT tg ts u (zsI w a j x) := by
  obtain ⟨a1, a2, a3, a4, a5, a6, a7⟩ := h
  refine ⟨fun b i z => ?_, a2, a3, a4, a5, a6, vKp_tr a7 (vKp_s (fun b i z => ?_) (fun _ _ => rfl))⟩
  · rw [gI_sI, if_neg]
    · exact a1 b i z
    · rintro ⟨rfl, rfl⟩; exact z (e ▸ q)
  · rw [gI_sI, if_neg (by omega)]
theorem fT_L {tg : Nat → Nat → Nat} {ts : List Nat} {u w : zMu} (h : fT tg ts u w) {a j : Nat} (x : Int64) (t : Nat) (e : tg a 0 = t) (q : t ∈ ts) : fT tg ts u (zsL w a j x) := by
  obtain ⟨a1, a2, a3, a4, a5, a6, a7⟩ := h
  refine ⟨a1, fun b i z => ?_, a3, a4, a5, a6, vKp_tr a7 (vKp_s (fun _ _ _ => rfl) (fun _ _ => rfl))⟩
  rw [gL_sL, if_neg]
  · exact a2 b i z
  · rintro ⟨rfl, rfl⟩; exact z (e ▸ q)
theorem fT_i {tg : Nat → Nat → Nat} {ts : List Nat} {u w : zMu} (h : fT tg ts u w) {t : Nat} (q : ¬ t ∈ ts) {a j : Nat} (e : tg a j = t) : zI w a j = zI u a j := h.1 a j (by rw [e]; exact q)
theorem fT_l {tg : Nat → Nat → Nat} {ts : List Nat} {u w : zMu} (h : fT tg ts u w) {t : Nat} (q : ¬ t ∈ ts) {a : Nat} (e : tg a 0 = t) (j : Nat) : zL w a j = zL u a j := h.2.1 a j (by rw [e]; exact q)
theorem fT_n {tg : Nat → Nat → Nat} {ts : List Nat} {u w : zMu} (h : fT tg ts u w) {t : Nat} (q : ¬ t ∈ ts) {a : Nat} (e : tg a 0 = t) : zN w a = zN u a := h.2.2.2.1 a (by rw [e]; exact q)
theorem fT_R {tg : Nat → Nat → Nat} {ts : List Nat} {u w : zMu} (h : fT tg ts u w) (a j : Nat) : zR w a j = zR u a j := by
  unfold zR; rw [h.2.2.1]
theorem fT_dy {ts : List Nat} {u w : zMu} (h : fT tgC ts u w) : zdy w = zdy u := by
  unfold zdy
  simp only [fT_R h]
/-- which Values, how much it holds, its tag -/
def vK (v m t : Nat) : Prop := (v = 66 ∧ m = 16000 ∧ t = 6) ∨ (v = 69 ∧ m = 3000 ∧ t = 8) ∨ (v = 72 ∧ m = 200 ∧ t = 4) ∨ (v = 75 ∧ m = 780 ∧ t = 1) ∨ (v = 78 ∧ m = 156 ∧ t = 2)
theorem fT_V {ts : List Nat} {u w x : zMu} (h : fT tgC ts u w) {v m t : Nat} (hv : vK v m t) (k : fV v m w x) (kw : pVw v m x) (q : t ∈ ts) : fT tgC ts u x := by
  refine fT_tr h ?_
  obtain ⟨k1, k2, k3, k4, k5, k6, k7⟩ := k
  have e1 : tgC (v + 1) 0 = t ∧ ∀ j, tgC (v + 1) j = t := by rcases hv with ⟨rfl, rfl, rfl⟩ | ⟨rfl, rfl, rfl⟩ | ⟨rfl, rfl, rfl⟩ | ⟨rfl, rfl, rfl⟩ | ⟨rfl, rfl, rfl⟩ <;> exact ⟨rfl, fun _ => rfl⟩
  have e2 : tgC (v + 2) 0 = t := by rcases hv with ⟨rfl, rfl, rfl⟩ | ⟨rfl, rfl, rfl⟩ | ⟨rfl, rfl, rfl⟩ | ⟨rfl, rfl, rfl⟩ | ⟨rfl, rfl, rfl⟩ <;> rfl
  refine ⟨fun a j z => k1 a j ?_, fun a j z => k2 a j ?_, ?_, fun a z => k4 a ?_ ?_, ?_, ?_, ?_⟩
  · rintro rfl; exact z (by rw [e1.2]; exact q)
  · rintro rfl; exact z (by rw [e2]; exact q)
  · exact funext fun a => funext fun j => k3 a j
  · rintro rfl; exact z (by rw [e1.1]; exact q)
  · rintro rfl; exact z (by rw [e2]; exact q)
  · unfold pA
    rcases hv with ⟨rfl, rfl, rfl⟩ | ⟨rfl, rfl, rfl⟩ | ⟨rfl, rfl, rfl⟩ | ⟨rfl, rfl, rfl⟩ | ⟨rfl, rfl, rfl⟩
    · rw [k4 70 (by decide) (by decide), k4 73 (by decide) (by decide), k4 76 (by decide) (by decide), k4 79 (by decide) (by decide), k4 88 (by decide) (by decide), k4 81 (by decide) (by decide)]; simp only [Nat.reduceAdd] at k6 k7; omega
    · rw [k4 67 (by decide) (by decide), k4 73 (by decide) (by decide), k4 76 (by decide) (by decide), k4 79 (by decide) (by decide), k4 88 (by decide) (by decide), k4 81 (by decide) (by decide)]; simp only [Nat.reduceAdd] at k6 k7; omega
    · rw [k4 70 (by decide) (by decide), k4 67 (by decide) (by decide), k4 76 (by decide) (by decide), k4 79 (by decide) (by decide), k4 88 (by decide) (by decide), k4 81 (by decide) (by decide)]; simp only [Nat.reduceAdd] at k6 k7; omega
    · rw [k4 70 (by decide) (by decide), k4 73 (by decide) (by decide), k4 67 (by decide) (by decide), k4 79 (by decide) (by decide), k4 88 (by decide) (by decide), k4 81 (by decide) (by decide)]; simp only [Nat.reduceAdd] at k6 k7; omega
    · rw [k4 70 (by decide) (by decide), k4 73 (by decide) (by decide), k4 76 (by decide) (by decide), k4 67 (by decide) (by decide), k4 88 (by decide) (by decide), k4 81 (by decide) (by decide)]; simp only [Nat.reduceAdd] at k6 k7; omega
  · unfold pB
    rcases hv with ⟨rfl, rfl, rfl⟩ | ⟨rfl, rfl, rfl⟩ | ⟨rfl, rfl, rfl⟩ | ⟨rfl, rfl, rfl⟩ | ⟨rfl, rfl, rfl⟩
    · rw [k4 70 (by decide) (by decide), k4 73 (by decide) (by decide), k4 76 (by decide) (by decide), k4 79 (by decide) (by decide), k4 88 (by decide) (by decide), k4 81 (by decide) (by decide)]; simp only [Nat.reduceAdd] at k6 k7; omega
    · rw [k4 67 (by decide) (by decide), k4 73 (by decide) (by decide), k4 76 (by decide) (by decide), k4 79 (by decide) (by decide), k4 88 (by decide) (by decide), k4 81 (by decide) (by decide)]; simp only [Nat.reduceAdd] at k6 k7; omega
    · rw [k4 70 (by decide) (by decide), k4 67 (by decide) (by decide), k4 76 (by decide) (by decide), k4 79 (by decide) (by decide), k4 88 (by decide) (by decide), k4 81 (by decide) (by decide)]; simp only [Nat.reduceAdd] at k6 k7; omega
    · rw [k4 70 (by decide) (by decide), k4 73 (by decide) (by decide), k4 67 (by decide) (by decide), k4 79 (by decide) (by decide), k4 88 (by decide) (by decide), k4 81 (by decide) (by decide)]; simp only [Nat.reduceAdd] at k6 k7; omega
    · rw [k4 70 (by decide) (by decide), k4 73 (by decide) (by decide), k4 76 (by decide) (by decide), k4 67 (by decide) (by decide), k4 88 (by decide) (by decide), k4 81 (by decide) (by decide)]; simp only [Nat.reduceAdd] at k6 k7; omega
  · clear e1 e2
    rcases hv with ⟨rfl, rfl, rfl⟩ | ⟨rfl, rfl, rfl⟩ | ⟨rfl, rfl, rfl⟩ | ⟨rfl, rfl, rfl⟩ | ⟨rfl, rfl, rfl⟩
    · exact vKp_s (fun a j z => k1 a j (by omega)) (fun a z => k4 a (by omega) (by omega))
    · exact vKp_s (fun a j z => k1 a j (by omega)) (fun a z => k4 a (by omega) (by omega))
    · exact vKp_s (fun a j z => k1 a j (by omega)) (fun a z => k4 a (by omega) (by omega))
    · exact ⟨fun _ => kw, fun a b => ⟨pVw_keep a (k1 78 0 (by omega)) (fun j => k1 79 j (by omega)) (k4 79 (by omega) (by omega)) (k4 80 (by omega) (by omega)), (k4 79 (by omega) (by omega)).trans b⟩⟩
    · refine ⟨fun a => pVw_keep a (k1 75 0 (by omega)) (fun j => k1 76 j (by omega)) (k4 76 (by omega) (by omega)) (k4 77 (by omega) (by omega)), fun a b => ⟨kw, ?_⟩⟩
      have k5' : zN w 79 ≤ zN x 79 := k5
      have kw' : zN x 79 ≤ 156 := kw.2.2.2.2.1
      omega
/-- a Values whose tag is not touched -/
theorem vw_kT {ts : List Nat} {u w : zMu} (h : fT tgC ts u w) {v m t : Nat} (hv : vK v m t) (q : ¬ t ∈ ts) : (pVw v m u → pVw v m w) ∧ (∀ j, vS v w j = vS v u j) ∧ (∀ j, vX v w j = vX v u j) ∧ zN w (v + 1) = zN u (v + 1) := by
  have e0 : tgC v 0 = t := by rcases hv with ⟨rfl, rfl, rfl⟩ | ⟨rfl, rfl, rfl⟩ | ⟨rfl, rfl, rfl⟩ | ⟨rfl, rfl, rfl⟩ | ⟨rfl, rfl, rfl⟩ <;> rfl
  have e1 : ∀ j, tgC (v + 1) j = t := by rcases hv with ⟨rfl, rfl, rfl⟩ | ⟨rfl, rfl, rfl⟩ | ⟨rfl, rfl, rfl⟩ | ⟨rfl, rfl, rfl⟩ | ⟨rfl, rfl, rfl⟩ <;> exact fun _ => rfl
  have e2 : tgC (v + 2) 0 = t := by rcases hv with ⟨rfl, rfl, rfl⟩ | ⟨rfl, rfl, rfl⟩ | ⟨rfl, rfl, rfl⟩ | ⟨rfl, rfl, rfl⟩ | ⟨rfl, rfl, rfl⟩ <;> rfl
  have n1 := fT_n h q (e1 0)
  have n2 := fT_n h q e2
  have i1 : ∀ j, zI w (v + 1) j = zI u (v + 1) j := fun j => fT_i h q (e1 j)
  have l2 : ∀ j, zL w (v + 2) j = zL u (v + 2) j := fun j => fT_l h q e2 j
  exact ⟨fun z => pVw_keep z (fT_i h q e0) i1 n1 n2, vS_keep i1 n1, vX_keep l2 n1, n1⟩
theorem kSt_k {nO nR t : Nat} {ts : List Nat} {ur uc vr vc : zMu} (h : kSt nO nR t ur uc) (hr : fT tgR ts ur vr) (hc : fT tgC ts uc vc) (q : ¬ 1 ∈ ts) : kSt nO nR t vr vc := by
  obtain ⟨h1, h2, h3, h4, h5⟩ := h
  obtain ⟨v1, v2, v3, -⟩ := vw_kT hc (v := 75) (m := 780) (t := 1) (by unfold vK; omega) q
  refine ⟨(fT_i hr q (show tgR 0 51 = 1 from rfl)).trans h1, (fT_i hc q (show tgC 34 8 = 1 from rfl)).trans h2, h3, v1 h4, fun j hj => ?_⟩
  rw [v2, v3, fT_i hr q (show tgR 27 j = 1 from rfl), fT_l hr q (show tgR 31 0 = 1 from rfl)]
  exact h5 j hj
theorem kVa_k {nO nR D : Nat} {ts : List Nat} {ur uc vr vc : zMu} (h : kVa nO nR D ur uc) (hr : fT tgR ts ur vr) (hc : fT tgC ts uc vc) (q : ¬ 2 ∈ ts) : kVa nO nR D vr vc := by
  obtain ⟨h1, h2, h3, h4⟩ := h
  obtain ⟨v1, v2, v3, v4⟩ := vw_kT hc (v := 78) (m := 156) (t := 2) (by unfold vK; omega) q
  refine ⟨h1, v1 h2, v4.trans h3, fun j hj => ?_⟩
  rw [v2, v3, fT_i hr q (show tgR 28 j = 2 from rfl), fT_l hr q (show tgR 32 0 = 2 from rfl)]
  exact h4 j hj
theorem kSt_m {nO nR nO' nR' t : Nat} {ur uc : zMu} (h : kSt nO nR t ur uc) (a : nO ≤ nO') (b : nR ≤ nR') : kSt nO' nR' t ur uc := ⟨h.1, h.2.1, h.2.2.1, h.2.2.2.1, fun j hj => vR_mono (h.2.2.2.2 j hj) a b⟩
theorem kVa_m {nO nR nO' nR' D : Nat} {ur uc : zMu} (h : kVa nO nR D ur uc) (a : nO ≤ nO') (b : nR ≤ nR') : kVa nO' nR' D ur uc := ⟨h.1, h.2.1, h.2.2.1, fun j hj => vR_mono (h.2.2.2 j hj) a b⟩
