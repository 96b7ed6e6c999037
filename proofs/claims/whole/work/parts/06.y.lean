theorem hy_ap_t {post : Int32 → Prop} {u : SY} {s p n : Int64} (h : hp_ap s p n) (hp : post 1) : wpY_applicable post u p n s := br_t h.1 (br_t h.2 hp)
theorem hy_ap_f {post : Int32 → Prop} {u : SY} {s p n : Int64} (h : ¬ hp_ap s p n) (hp : post 0) : wpY_applicable post u p n s := br_c (fun h1 => br_f (fun h2 => h ⟨h1, h2⟩) hp) (fun _ => hp)
theorem hp_64 : (64 : Int32) = nI 64 := rfl
section
variable {D B M ic : Nat} {ini : Int64} {st qp qd qe : Int32} {xs : Int64} {xp : Int32} {os mp mn : Nat → Int64} {tk sn sb it pn dc cu : Nat → Int32} {fS : Nat → Int64} {fP fT fX fN fL : Nat → Int32} {post : Int32 → SY → Prop} {n x : Nat}
theorem hy_end1 {y1 y5 y6 y7 y8 y9 y11 : Int32} {y3 : Int64} (hp : post 1 (nI M, nI ic, ini, nI D, nI B, 1, y6, y7, y1, ini, 0, os, tk, mp, mn, sb, sn, it, pn, dc, cu, fS, fP, fT, fX, fN, fL)) : wY_plan_63 post (nI M) (nI ic) ini (nI D) (nI B) st qp qd qe xs xp (n + 1) y1 1 y3 y5 y6 y7 y8 y9 0 y11 os tk mp mn sb sn it pn dc cu fS fP fT fX fN fL := br_c (fun _ => br_t rfl hp) (fun _ => br_t rfl (br_t rfl hp))
theorem hy_end0 {r y1 y5 y6 y7 y8 y9 y11 : Int32} {y3 : Int64} (hr : ¬ r = 1) (hp : post r (nI M, nI ic, ini, nI D, nI B, r, 0, 0, y1, ini, 0, os, tk, mp, mn, sb, sn, it, pn, dc, cu, fS, fP, fT, fX, fN, fL)) : wY_plan_63 post (nI M) (nI ic) ini (nI D) (nI B) st qp qd qe xs xp (n + 1) y1 r y3 y5 y6 y7 y8 y9 0 y11 os tk mp mn sb sn it pn dc cu fS fP fT fX fN fL := br_c (fun _ => br_f hr hp) (fun _ => br_t rfl (br_f hr hp))
theorem hy_303 {y1 y2 y6 y7 y10 : Int32} {y3 : Int64} {d len : Nat} {fL0 : Nat → Int32} (hd : d < 17) (hlen : len < 64) (hp : ∀ fL' : Nat → Int32, (∀ j, j < len → fL' (d * 64 + j) = cu j) → (∀ q, q < d * 64 ∨ d * 64 + 64 ≤ q → fL' q = fL0 q) → wY_plan_63 post (nI M) (nI ic) ini (nI D) (nI B) st qp qd qe xs xp n y1 y2 y3 (nI len) y6 y7 (nI (d + 1)) 1 y10 (nI (x + 1)) os tk mp mn sb sn it pn dc cu fS fP fT fX fN fL') : ∀ (m i : Nat) (fL : Nat → Int32), i + m = len → (∀ j, j < i → fL (d * 64 + j) = cu j) → (∀ q, q < d * 64 ∨ d * 64 + 64 ≤ q → fL q = fL0 q) → wY_plan_303 post (wY_plan_63 post (nI M) (nI ic) ini (nI D) (nI B) st qp qd qe xs xp n) y1 y2 y3 (nI len) y6 y7 (nI d) y10 (nI x) (nI M) (nI ic) ini (nI D) (nI B) st qp qd qe xs xp (m + 1) (nI i) os tk mp mn sb sn it pn dc cu fS fP fT fX fN fL := by
  intro m
  induction m with
  | zero =>
    intro i fL hi h1 h2
    exact br_t (nI_le (by omega) (by omega)) (nm_r (nI_1 d) (nm_r (nI_1 x) (hp fL (fun j hj => h1 j (by omega)) h2)))
  | succ m ih =>
    intro i fL hi h1 h2
    have hix : nI d * 64 + nI i = nI (d * 64 + i) := by rw [hp_64, pk_mul, nI_add]
    have e1 : upd fL (nI d * 64 + nI i).toNatClampNeg (cu (nI i).toNatClampNeg) = upd fL (d * 64 + i) (cu i) := by rw [hix, nI_clamp (by omega), nI_clamp (by omega)]
    have hv : vp_in (nI d * 64 + nI i) 1088 := by rw [hix]; exact vp_in_nI (by omega) (by decide)
    refine br_f (nI_ge (by omega) (by omega)) (br_f (nI_ge (b := 64) (by omega) (by decide)) ⟨vp_in_nI (by omega) (by decide), hv, nm_r e1 (nm_r (nI_1 i) (ih (i + 1) _ (by omega) ?_ ?_))⟩)
    · intro j hj
      by_cases hji : j = i
      · rw [hji, pk_us]
      · rw [pk_un (by omega)]
        exact h1 j (by omega)
    · intro q hq
      rw [pk_un (by omega)]
      exact h2 q hq
theorem hy_202 {y1 y2 y6 y7 y8 y9 y10 : Int32} {y3 : Int64} {l : Nat} {cu0 : Nat → Int32} (hl : l < 63) (hp : ∀ cu' : Nat → Int32, (∀ j, j < l → cu' j = cu0 (j + 1)) → wY_plan_63 post (nI M) (nI ic) ini (nI D) (nI B) st qp qd qe xs xp n y1 y2 y3 (nI l) y6 y7 y8 y9 y10 (nI (x + 1)) os tk mp mn sb sn it pn dc cu' fS fP fT fX fN fL) : ∀ (m i : Nat) (cu : Nat → Int32), i + m = l → (∀ j, j < i → cu j = cu0 (j + 1)) → (∀ j, i ≤ j → cu j = cu0 j) → wY_plan_202 post (wY_plan_63 post (nI M) (nI ic) ini (nI D) (nI B) st qp qd qe xs xp n) y1 y2 y3 (nI (l + 1)) y6 y7 y8 y9 y10 (nI x) (nI M) (nI ic) ini (nI D) (nI B) st qp qd qe xs xp (m + 1) (nI (i + 1)) os tk mp mn sb sn it pn dc cu fS fP fT fX fN fL := by
  intro m
  induction m with
  | zero =>
    intro i cu hi h1 h2
    exact br_t (nI_le (by omega) (by omega)) (nm_r (pk_m1 l) (nm_r (nI_1 x) (hp cu (fun j hj => h1 j (by omega)))))
  | succ m ih =>
    intro i cu hi h1 h2
    have hv : vp_in (nI (i + 1) - 1) 64 := by rw [nI_pred]; exact vp_in_nI (by omega) (by decide)
    have e1 : upd cu (nI (i + 1) - 1).toNatClampNeg (cu (nI (i + 1)).toNatClampNeg) = upd cu i (cu (i + 1)) := by rw [nI_pred, nI_clamp (by omega), nI_clamp (by omega)]
    refine br_f (nI_ge (by omega) (by omega)) (br_f (nI_ge (b := 64) (by omega) (by decide)) ⟨vp_in_nI (by omega) (by decide), hv, nm_r e1 (nm_r (nI_1 (i + 1)) (ih (i + 1) _ (by omega) ?_ ?_))⟩)
    · intro j hj
      by_cases hji : j = i
      · rw [hji, pk_us]
        exact h2 (i + 1) (by omega)
      · rw [pk_un hji]
        exact h1 j (by omega)
    · intro j hj
      rw [pk_un (by omega)]
      exact h2 j (by omega)
theorem hy_12 {y1 y2 : Int32} {y3 : Int64} (hp : ∀ cu' : Nat → Int32, (∀ j, j < 8 → cu' j = it j) → ∃ n63 : Nat, wY_plan_63 post (nI M) (nI ic) ini (nI D) (nI B) st qp qd qe xs xp n63 y1 y2 y3 (nI ic) 0 0 0 0 1 0 os tk mp mn sb sn it pn dc cu' fS fP fT fX fN fL) : ∀ (m i : Nat) (cu : Nat → Int32), i + m = 8 → (∀ j, j < i → cu j = it j) → wY_plan_12 post y1 y2 y3 (nI M) (nI ic) ini (nI D) (nI B) st qp qd qe xs xp (m + 1) (nI i) os tk mp mn sb sn it pn dc cu fS fP fT fX fN fL := by
  intro m
  induction m with
  | zero =>
    intro i cu hi h1
    exact br_t (nI_le (a := 8) (by omega) (by omega)) (hp cu (fun j hj => h1 j (by omega)))
  | succ m ih =>
    intro i cu hi h1
    have e1 : upd cu (nI i).toNatClampNeg (it (nI i).toNatClampNeg) = upd cu i (it i) := by rw [nI_clamp (by omega)]
    refine br_f (nI_ge (b := 8) (by omega) (by decide)) ⟨vp_in_nI (by omega) (by decide), vp_in_nI (by omega) (by decide), nm_r e1 (nm_r (nI_1 i) (ih (i + 1) _ (by omega) ?_))⟩
    intro j hj
    by_cases hji : j = i
    · rw [hji, pk_us]
    · rw [pk_un hji]
      exact h1 j (by omega)
theorem hy_383t {y1 y2 y5 y6 y7 y8 y9 y10 t : Int32} {y3 : Int64} {d m : Nat} (hd : d < 17) (hM : M ≤ 32) (hm : m < M) (hft : fT d = t) (ht : tk m = t) (hp : wY_plan_429 post (wY_plan_63 post (nI M) (nI ic) ini (nI D) (nI B) st qp qd qe xs xp n) y1 y2 y3 y5 y6 y7 y8 y9 y10 (nI x) (nI d) (nI m) (nI M) (nI ic) ini (nI D) (nI B) st qp qd qe xs xp os tk mp mn sb sn it pn dc cu fS fP fT fX fN fL) : ∀ (k j : Nat), j + k = m → (∀ i, j ≤ i → i < m → tk i ≠ t) → wY_plan_383 post (wY_plan_63 post (nI M) (nI ic) ini (nI D) (nI B) st qp qd qe xs xp n) y1 y2 y3 y5 y6 y7 y8 y9 y10 (nI x) (nI d) (nI M) (nI ic) ini (nI D) (nI B) st qp qd qe xs xp os tk mp mn sb sn it pn dc cu fS fP fT fX fN fL (k + 2) (-1) (nI j) := by
  have hdi : vp_in (nI d) 17 := vp_in_nI hd (by decide)
  intro k
  induction k with
  | zero =>
    intro j hj _
    have hj' : j = m := by omega
    rw [hj']
    have e1 : tk (nI m).toNatClampNeg = fT (nI d).toNatClampNeg := by rw [nI_clamp (by omega), nI_clamp (by omega), hft, ht]
    refine br_f (nI_ge hm (by omega)) (br_f (by decide) (br_f (nI_pos (by omega)) ⟨vp_in_nI (by omega) (by decide), hdi, br_t e1 (nm_r (nI_1 m) ?_)⟩))
    exact br_c (fun _ => hp) (fun _ => br_t (nI_pos' (by omega)) hp)
  | succ k ih =>
    intro j hj hne
    have e1 : ¬ tk (nI j).toNatClampNeg = fT (nI d).toNatClampNeg := by
      rw [nI_clamp (by omega), nI_clamp (by omega), hft]
      exact hne j (Nat.le_refl j) (by omega)
    exact br_f (nI_ge (by omega) (by omega)) (br_f (by decide) (br_f (nI_pos (by omega)) ⟨vp_in_nI (by omega) (by decide), hdi, br_f e1 (nm_r (nI_1 j) (ih (j + 1) (by omega) (fun i a b => hne i (by omega) b)))⟩))
theorem hy_383f {y1 y2 y5 y6 y7 y8 y9 y10 t : Int32} {y3 : Int64} {d : Nat} (hd : d < 17) (hM : M ≤ 32) (hft : fT d = t) (hp : wY_plan_429 post (wY_plan_63 post (nI M) (nI ic) ini (nI D) (nI B) st qp qd qe xs xp n) y1 y2 y3 y5 y6 y7 y8 y9 y10 (nI x) (nI d) (-1) (nI M) (nI ic) ini (nI D) (nI B) st qp qd qe xs xp os tk mp mn sb sn it pn dc cu fS fP fT fX fN fL) : ∀ (k j : Nat), M ≤ j + k → j ≤ 32 → (∀ i, j ≤ i → i < M → tk i ≠ t) → wY_plan_383 post (wY_plan_63 post (nI M) (nI ic) ini (nI D) (nI B) st qp qd qe xs xp n) y1 y2 y3 y5 y6 y7 y8 y9 y10 (nI x) (nI d) (nI M) (nI ic) ini (nI D) (nI B) st qp qd qe xs xp os tk mp mn sb sn it pn dc cu fS fP fT fX fN fL (k + 1) (-1) (nI j) := by
  have hdi : vp_in (nI d) 17 := vp_in_nI hd (by decide)
  intro k
  induction k with
  | zero =>
    intro j hj h32 _
    exact br_t (nI_le (by omega) (by omega)) hp
  | succ k ih =>
    intro j hj h32 hne
    by_cases hMj : M ≤ j
    · exact br_t (nI_le hMj (by omega)) hp
    · have e1 : ¬ tk (nI j).toNatClampNeg = fT (nI d).toNatClampNeg := by
        rw [nI_clamp (by omega), nI_clamp (by omega), hft]
        exact hne j (Nat.le_refl j) (by omega)
      exact br_f (nI_ge (by omega) (by omega)) (br_f (by decide) (br_f (nI_pos (by omega)) ⟨vp_in_nI (by omega) (by decide), hdi, br_f e1 (nm_r (nI_1 j) (ih (j + 1) (by omega) (by omega) (fun i a b => hne i (by omega) b)))⟩))
theorem hy_575 {y1 y2 y6 y8 y10 : Int32} {y3 : Int64} {d m cnt l : Nat} (hd : d < 16) (hcl : cnt + l < 64) (hfN : fN d = nI (l + 1)) (hp : ∀ cu' : Nat → Int32, (∀ j, j < cnt → cu' j = sb (m * 4 + j)) → (∀ j, j < l → cu' (cnt + j) = fL (d * 64 + 1 + j)) → wY_plan_63 post (nI M) (nI ic) ini (nI D) (nI B) st qp qd qe xs xp n y1 y2 y3 (nI (cnt + l)) y6 (nI (d + 1)) y8 0 y10 (nI (x + 1)) os tk mp mn sb sn it pn (upd dc d (nI m)) cu' fS fP fT fX fN fL) : ∀ (k i : Nat) (cu : Nat → Int32), i + k = l → (∀ j, j < cnt → cu j = sb (m * 4 + j)) → (∀ j, j < i → cu (cnt + j) = fL (d * 64 + 1 + j)) → wY_plan_575 post (wY_plan_63 post (nI M) (nI ic) ini (nI D) (nI B) st qp qd qe xs xp n) y1 y2 y3 y6 y8 y10 (nI x) (nI d) (nI m) (nI M) (nI ic) ini (nI D) (nI B) st qp qd qe xs xp (k + 1) (nI (cnt + i)) (nI (i + 1)) os tk mp mn sb sn it pn dc cu fS fP fT fX fN fL := by
  have hdi : vp_in (nI d) 17 := vp_in_nI (by omega) (by decide)
  have hcd : (nI d).toNatClampNeg = d := nI_clamp (by omega)
  have hfN' : fN (nI d).toNatClampNeg = nI (l + 1) := by rw [hcd]; exact hfN
  intro k
  induction k with
  | zero =>
    intro i cu hi h1 h2
    have hil : i = l := by omega
    rw [hil]
    have e1 : upd dc (nI d).toNatClampNeg (nI m) = upd dc d (nI m) := by rw [hcd]
    exact ⟨hdi, br_t (by rw [hfN']; exact nI_le (Nat.le_refl _) (by omega)) ⟨vp_in_nI (by omega) (by decide), nm_r e1 (nm_r (nI_1 d) (nm_r (nI_1 x) (hp cu h1 (fun j hj => h2 j (by omega)))))⟩⟩
  | succ k ih =>
    intro i cu hi h1 h2
    have hix : nI d * 64 + nI (i + 1) = nI (d * 64 + (i + 1)) := by rw [hp_64, pk_mul, nI_add]
    have hv : vp_in (nI d * 64 + nI (i + 1)) 1088 := by rw [hix]; exact vp_in_nI (by omega) (by decide)
    have e1 : upd cu (nI (cnt + i)).toNatClampNeg (fL (nI d * 64 + nI (i + 1)).toNatClampNeg) = upd cu (cnt + i) (fL (d * 64 + (i + 1))) := by rw [hix, nI_clamp (by omega), nI_clamp (by omega)]
    refine ⟨hdi, br_f (by rw [hfN']; exact nI_ge (by omega) (by omega)) (br_f (nI_ge (b := 64) (by omega) (by decide)) (br_f (nI_ge (b := 64) (by omega) (by decide)) ⟨hv, vp_in_nI (by omega) (by decide), nm_r e1 (nm_r (nI_1 (cnt + i)) (nm_r (nI_1 (i + 1)) (ih (i + 1) _ (by omega) ?_ ?_)))⟩))⟩
    · intro j hj
      rw [pk_un (by omega)]
      exact h1 j hj
    · intro j hj
      by_cases hji : j = i
      · rw [hji, pk_us, show d * 64 + (i + 1) = d * 64 + 1 + i by omega]
      · rw [pk_un (by omega)]
        exact h2 j (by omega)
theorem hy_536 {y1 y2 y6 y8 y10 : Int32} {y3 : Int64} {d m cnt : Nat} (hm : m < 32) (hcnt : cnt ≤ 4) (hp : ∀ cu' : Nat → Int32, (∀ j, j < cnt → cu' j = sb (m * 4 + j)) → ∃ n575 : Nat, wY_plan_575 post (wY_plan_63 post (nI M) (nI ic) ini (nI D) (nI B) st qp qd qe xs xp n) y1 y2 y3 y6 y8 y10 (nI x) (nI d) (nI m) (nI M) (nI ic) ini (nI D) (nI B) st qp qd qe xs xp n575 (nI cnt) 1 os tk mp mn sb sn it pn dc cu' fS fP fT fX fN fL) : ∀ (k i : Nat) (cu : Nat → Int32), i + k = cnt → (∀ j, j < i → cu j = sb (m * 4 + j)) → wY_plan_536 post (wY_plan_63 post (nI M) (nI ic) ini (nI D) (nI B) st qp qd qe xs xp n) y1 y2 y3 y6 y8 y10 (nI x) (nI d) (nI m) (nI cnt) (nI M) (nI ic) ini (nI D) (nI B) st qp qd qe xs xp (k + 1) (nI i) os tk mp mn sb sn it pn dc cu fS fP fT fX fN fL := by
  intro k
  induction k with
  | zero =>
    intro i cu hi h1
    exact br_t (nI_le (by omega) (by omega)) (hp cu (fun j hj => h1 j (by omega)))
  | succ k ih =>
    intro i cu hi h1
    have hix : nI m * 4 + nI i = nI (m * 4 + i) := by rw [hp_4, pk_mul, nI_add]
    have hv : vp_in (nI m * 4 + nI i) 128 := by rw [hix]; exact vp_in_nI (by omega) (by decide)
    have e1 : upd cu (nI i).toNatClampNeg (sb (nI m * 4 + nI i).toNatClampNeg) = upd cu i (sb (m * 4 + i)) := by rw [hix, nI_clamp (by omega), nI_clamp (by omega)]
    refine br_f (nI_ge (by omega) (by omega)) ⟨hv, vp_in_nI (by omega) (by decide), nm_r e1 (nm_r (nI_1 i) (ih (i + 1) _ (by omega) ?_))⟩
    intro j hj
    by_cases hji : j = i
    · rw [hji, pk_us]
    · rw [pk_un hji]
      exact h1 j (by omega)
end
