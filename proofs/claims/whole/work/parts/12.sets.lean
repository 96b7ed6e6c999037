theorem hv_b0 : narrow .boolean (.int 0) = .int 0 := rfl
theorem hv_b1 : narrow .boolean (.int 1) = .int 1 := rfl
section
variable {M : Nat} {gD gB gI ge gp gd gn gx : Int32} {ini : Int64} {st : Int32} {xs : Int64} {c : Int32} {s : Int64} {os o1 o2 o3 o4 mp mn : Nat → Int64} {tk sn sb it pn dc ct cn sc : Nat → Int32} {ss : Nat → Int64} {sp cu : Nat → Int32} {fS : Nat → Int64} {fP fT fX fN fL : Nat → Int32}
theorem hx_im_lt {post : Int32 → Prop} {i : Int32} (h : i < 0) (hp : post 0) : wpX_isMethod post (gD, gB, nI M, gI, ini, st, ge, gp, gd, xs, gx, c, s, gn, o1, o2, o3, o4, mp, mn, tk, sn, sb, it, pn, dc, ct, cn, sc, ss, sp) i := br_t h hp
theorem hx_im_ge {post : Int32 → Prop} {i : Int32} (hM : M ≤ 32) (h : nI M ≤ i) (hp : post 0) : wpX_isMethod post (gD, gB, nI M, gI, ini, st, ge, gp, gd, xs, gx, c, s, gn, o1, o2, o3, o4, mp, mn, tk, sn, sb, it, pn, dc, ct, cn, sc, ss, sp) i := br_f (Int32.not_lt.mpr (Int32.le_trans (nI_pos' (by omega)) h)) (br_t h hp)
theorem hx_im_in {post : Int32 → Prop} {j : Nat} (hM : M ≤ 32) (h : j < M) (hp : post 1) : wpX_isMethod post (gD, gB, nI M, gI, ini, st, ge, gp, gd, xs, gx, c, s, gn, o1, o2, o3, o4, mp, mn, tk, sn, sb, it, pn, dc, ct, cn, sc, ss, sp) (nI j) := br_f (nI_pos (by omega)) (br_f (nI_ge h (by omega)) hp)
theorem hx_it_lt {post : Int32 → Prop} {i : Int32} (h : i < 0) (hp : post 0) : wpX_isTask post i := br_t h hp
theorem hx_it_ge {post : Int32 → Prop} {i : Int32} (h : nI 32 ≤ i) (hp : post 0) : wpX_isTask post i := br_f (Int32.not_lt.mpr (Int32.le_trans (nI_pos' (by decide)) h)) (br_t h hp)
theorem hx_it_in {post : Int32 → Prop} {j : Nat} (h : j < 32) (hp : post 1) : wpX_isTask post (nI j) := br_f (nI_pos (by omega)) (br_f (nI_ge (b := 32) h (by decide)) hp)
theorem hv_ns (w i : Int32) (hM : M ≤ 32) : ((∀ post : Int32 → Prop, post 0 → wpX_namesSet post (gD, gB, nI M, gI, ini, st, ge, gp, gd, xs, gx, c, s, gn, o1, o2, o3, o4, mp, mn, tk, sn, sb, it, pn, dc, ct, cn, sc, ss, sp) w i) ∧ (∀ post : Int32 → Prop, post 0 → wpY_valid post (nI M, gI, ini, gD, gB, st, gp, gd, ge, xs, gx, os, tk, mp, mn, sb, sn, it, pn, dc, cu, fS, fP, fT, fX, fN, fL) w i)) ∨ ((∃ a j : Nat, w = nI a ∧ i = nI j ∧ (a < 4 ∧ j < 16 ∨ (a = 4 ∨ a = 5) ∧ j < M ∨ a = 6 ∧ j = 0)) ∧ (∀ post : Int32 → Prop, post 1 → wpX_namesSet post (gD, gB, nI M, gI, ini, st, ge, gp, gd, xs, gx, c, s, gn, o1, o2, o3, o4, mp, mn, tk, sn, sb, it, pn, dc, ct, cn, sc, ss, sp) w i) ∧ (∀ post : Int32 → Prop, post 1 → wpY_valid post (nI M, gI, ini, gD, gB, st, gp, gd, ge, xs, gx, os, tk, mp, mn, sb, sn, it, pn, dc, cu, fS, fP, fT, fX, fN, fL) w i)) := by
  rcases pk_ix w (n := 7) (by decide) with h | h | ⟨a, ha, rfl⟩
  · exact Or.inl ⟨fun post hp => br_t h hp, fun post hp => br_t h hp⟩
  · have h0 : ¬ w < 0 := Int32.not_lt.mpr (Int32.le_trans (nI_pos' (by decide)) h)
    have h6 : ¬ w ≤ 6 := fun z => absurd (Int32.le_trans h z) (by decide)
    exact Or.inl ⟨fun post hp => br_f h0 (br_f h6 hp), fun post hp => br_f h0 (br_f h6 hp)⟩
  · have h0 : ¬ nI a < 0 := nI_pos (by omega)
    have h6 : nI a ≤ 6 := nI_le (b := 6) (by omega) (by decide)
    by_cases h3 : a < 4
    · have n3 : ¬ (3 : Int32) < nI a := nI_nlt (a := 3) (by omega) (by decide)
      rcases pk_ix i (n := 16) (by decide) with g | g | ⟨j, hj, rfl⟩
      · exact Or.inl ⟨fun post hp => br_f h0 (br_t h6 (br_f n3 (br_t g hp))), fun post hp => br_f h0 (br_t h6 (br_f n3 (br_t g hp)))⟩
      · have g0 : ¬ i < 0 := Int32.not_lt.mpr (Int32.le_trans (nI_pos' (by decide)) g)
        have g15 : (15 : Int32) < i := Int32.lt_of_lt_of_le (by decide : (15 : Int32) < nI 16) g
        exact Or.inl ⟨fun post hp => br_f h0 (br_t h6 (br_f n3 (br_f g0 (br_t g hp)))), fun post hp => br_f h0 (br_t h6 (br_f n3 (br_f g0 (br_t g15 hp))))⟩
      · have g0 : ¬ nI j < 0 := nI_pos (by omega)
        have g16 : ¬ (16 : Int32) ≤ nI j := nI_ge (b := 16) hj (by decide)
        have g15 : ¬ (15 : Int32) < nI j := nI_nlt (a := 15) (by omega) (by decide)
        exact Or.inr ⟨⟨a, j, rfl, rfl, Or.inl ⟨h3, hj⟩⟩, fun post hp => br_f h0 (br_t h6 (br_f n3 (br_f g0 (br_f g16 hp)))), fun post hp => br_f h0 (br_t h6 (br_f n3 (br_f g0 (br_f g15 hp))))⟩
    · have t3 : (3 : Int32) < nI a := nI_lt (a := 3) (by omega) (by omega)
      by_cases h5 : a < 6
      · have n5 : ¬ (5 : Int32) < nI a := nI_nlt (a := 5) (by omega) (by decide)
        rcases pk_ix i (n := M) (by omega) with g | g | ⟨j, hj, rfl⟩
        · exact Or.inl ⟨fun post hp => br_f h0 (br_t h6 (br_t t3 (br_f n5 (hx_im_lt g ⟨hv_b0, hp⟩)))), fun post hp => br_f h0 (br_t h6 (br_t t3 (br_f n5 (br_t g hp))))⟩
        · have g0 : ¬ i < 0 := Int32.not_lt.mpr (Int32.le_trans (nI_pos' (by omega)) g)
          exact Or.inl ⟨fun post hp => br_f h0 (br_t h6 (br_t t3 (br_f n5 (hx_im_ge hM g ⟨hv_b0, hp⟩)))), fun post hp => br_f h0 (br_t h6 (br_t t3 (br_f n5 (br_f g0 (br_t g hp)))))⟩
        · have g0 : ¬ nI j < 0 := nI_pos (by omega)
          have gM : ¬ nI M ≤ nI j := nI_ge hj (by omega)
          exact Or.inr ⟨⟨a, j, rfl, rfl, Or.inr (Or.inl ⟨by omega, hj⟩)⟩, fun post hp => br_f h0 (br_t h6 (br_t t3 (br_f n5 (hx_im_in hM hj ⟨hv_b1, hp⟩)))), fun post hp => br_f h0 (br_t h6 (br_t t3 (br_f n5 (br_f g0 (br_f gM hp)))))⟩
      · have t5 : (5 : Int32) < nI a := nI_lt (a := 5) (by omega) (by omega)
        by_cases g : i = 0
        · exact Or.inr ⟨⟨a, 0, rfl, g, Or.inr (Or.inr ⟨by omega, rfl⟩)⟩, fun post hp => br_f h0 (br_t h6 (br_t t3 (br_t t5 (br_t g hp)))), fun post hp => br_f h0 (br_t h6 (br_t t3 (br_t t5 (br_t g hp))))⟩
        · exact Or.inl ⟨fun post hp => br_f h0 (br_t h6 (br_t t3 (br_t t5 (br_f g hp)))), fun post hp => br_f h0 (br_t h6 (br_t t3 (br_t t5 (br_f g hp))))⟩
end
theorem hv_os0 {os o1 o2 o3 o4 : Nat → Int64} (h : hp_os os o1 o2 o3 o4) {j : Nat} (hj : j < 16) (b : Int64) : hp_os (vp_updL os j b) (vp_updL o1 j b) o2 o3 o4 := by
  intro i hi
  obtain ⟨a1, a2, a3, a4⟩ := h i hi
  refine ⟨?_, (pk_uLn (by omega)).trans a2, (pk_uLn (by omega)).trans a3, (pk_uLn (by omega)).trans a4⟩
  by_cases e : i = j
  · rw [e, pk_uLs, pk_uLs]
  · rw [pk_uLn e, pk_uLn e]; exact a1
theorem hv_os1 {os o1 o2 o3 o4 : Nat → Int64} (h : hp_os os o1 o2 o3 o4) {j : Nat} (hj : j < 16) (b : Int64) : hp_os (vp_updL os (16 + j) b) o1 (vp_updL o2 j b) o3 o4 := by
  intro i hi
  obtain ⟨a1, a2, a3, a4⟩ := h i hi
  refine ⟨(pk_uLn (by omega)).trans a1, ?_, (pk_uLn (by omega)).trans a3, (pk_uLn (by omega)).trans a4⟩
  by_cases e : i = j
  · rw [e, pk_uLs, pk_uLs]
  · rw [pk_uLn e, pk_uLn (by omega)]; exact a2
theorem hv_os2 {os o1 o2 o3 o4 : Nat → Int64} (h : hp_os os o1 o2 o3 o4) {j : Nat} (hj : j < 16) (b : Int64) : hp_os (vp_updL os (32 + j) b) o1 o2 (vp_updL o3 j b) o4 := by
  intro i hi
  obtain ⟨a1, a2, a3, a4⟩ := h i hi
  refine ⟨(pk_uLn (by omega)).trans a1, (pk_uLn (by omega)).trans a2, ?_, (pk_uLn (by omega)).trans a4⟩
  by_cases e : i = j
  · rw [e, pk_uLs, pk_uLs]
  · rw [pk_uLn e, pk_uLn (by omega)]; exact a3
theorem hv_os3 {os o1 o2 o3 o4 : Nat → Int64} (h : hp_os os o1 o2 o3 o4) {j : Nat} (hj : j < 16) (b : Int64) : hp_os (vp_updL os (48 + j) b) o1 o2 o3 (vp_updL o4 j b) := by
  intro i hi
  obtain ⟨a1, a2, a3, a4⟩ := h i hi
  refine ⟨(pk_uLn (by omega)).trans a1, (pk_uLn (by omega)).trans a2, (pk_uLn (by omega)).trans a3, ?_⟩
  by_cases e : i = j
  · rw [e, pk_uLs, pk_uLs]
  · rw [pk_uLn e, pk_uLn (by omega)]; exact a4
theorem hv_ix (a j : Nat) (ha : a < 4) (hj : j < 16) : (nI a * 16 + nI j).toNatClampNeg = 16 * a + j ∧ vp_in (nI a * 16 + nI j) 64 := by
  have h : nI a * 16 + nI j = nI (16 * a + j) := by rw [show (16 : Int32) = nI 16 from rfl, pk_mul, nI_add, Nat.mul_comm a 16]
  rw [h]
  exact ⟨nI_clamp (by omega), vp_in_nI (by omega) (by decide)⟩
theorem i_vc_getSet {k : Nat} {u : SX} {v : SY} (I : i_Rel k u v) (hk : k + 5 ≤ 2562) (v1 : Int32) (v2 : Int32) : wpX_getSet (fun r => wpY_getSet (fun r' => r' = r ∧ i_Rel (k + 5) u v) v v1 v2) u v1 v2 := by
  obtain ⟨D, B, M, ic, pl, d, ep, ini, st, e, xs, c, s, nm, os, o1, o2, o3, o4, mp, mn, tk, sn, sb, it, pn, dc, ct, cn, sc, ss, sp, cu, fS, fP, fT, fX, fN, fL, rfl, rfl, hJ⟩ := I
  have hJ0 := hJ
  obtain ⟨⟨hD, hB, hM, hic, hpl, hd, hep⟩, hos, hz, hsn, hsb, hit, hpn, hdc⟩ := hJ
  unfold wpX_getSet
  rcases hv_ns v1 v2 hM with ⟨hx, hy⟩ | ⟨⟨a, j, rfl, rfl, hc⟩, hx, hy⟩
  · refine hx _ (br_t rfl ?_)
    unfold wpY_getSet
    exact hy _ (br_t rfl ⟨rfl, hp_mk hJ0⟩)
  · have hcj : (nI j).toNatClampNeg = j := nI_clamp (by omega)
    have ha : a = 0 ∨ a = 1 ∨ a = 2 ∨ a = 3 ∨ a = 4 ∨ a = 5 ∨ a = 6 := by omega
    refine hx _ (br_f hp_1n0 ?_)
    unfold wpY_getSet
    rcases ha with rfl | rfl | rfl | rfl | rfl | rfl | rfl
    · have hj : j < 16 := by omega
      obtain ⟨i1, i2⟩ := hv_ix 0 j (by decide) hj
      have hr : os (nI 0 * 16 + nI j).toNatClampNeg = o1 (nI j).toNatClampNeg := by rw [i1, hcj, Nat.mul_zero, Nat.zero_add]; exact (hos j hj).1
      exact br_f (by decide) (br_f (by decide) (br_t (by decide) ⟨vp_in_nI hj (by decide), hy _ (br_f hp_1n0 (br_f (by decide) ⟨i2, hr, hp_mk hJ0⟩))⟩))
    · have hj : j < 16 := by omega
      obtain ⟨i1, i2⟩ := hv_ix 1 j (by decide) hj
      have hr : os (nI 1 * 16 + nI j).toNatClampNeg = o2 (nI j).toNatClampNeg := by rw [i1, hcj]; exact (hos j hj).2.1
      exact br_f (by decide) (br_f (by decide) (br_f (by decide) (br_t (by decide) ⟨vp_in_nI hj (by decide), hy _ (br_f hp_1n0 (br_f (by decide) ⟨i2, hr, hp_mk hJ0⟩))⟩)))
    · have hj : j < 16 := by omega
      obtain ⟨i1, i2⟩ := hv_ix 2 j (by decide) hj
      have hr : os (nI 2 * 16 + nI j).toNatClampNeg = o3 (nI j).toNatClampNeg := by rw [i1, hcj]; exact (hos j hj).2.2.1
      exact br_f (by decide) (br_f (by decide) (br_f (by decide) (br_f (by decide) (br_t (by decide) ⟨vp_in_nI hj (by decide), hy _ (br_f hp_1n0 (br_f (by decide) ⟨i2, hr, hp_mk hJ0⟩))⟩))))
    · have hj : j < 16 := by omega
      obtain ⟨i1, i2⟩ := hv_ix 3 j (by decide) hj
      have hr : os (nI 3 * 16 + nI j).toNatClampNeg = o4 (nI j).toNatClampNeg := by rw [i1, hcj]; exact (hos j hj).2.2.2
      exact br_f (by decide) (br_f (by decide) (br_f (by decide) (br_f (by decide) (br_f (by decide) (br_t (by decide) ⟨vp_in_nI hj (by decide), hy _ (br_f hp_1n0 (br_f (by decide) ⟨i2, hr, hp_mk hJ0⟩))⟩)))))
    · have hj : vp_in (nI j) 32 := vp_in_nI (by omega) (by decide)
      exact br_f (by decide) (br_f (by decide) (br_f (by decide) (br_f (by decide) (br_f (by decide) (br_f (by decide) (br_t (by decide) ⟨hj, hy _ (br_f hp_1n0 (br_t (by decide) (br_t (by decide) ⟨hj, rfl, hp_mk hJ0⟩)))⟩))))))
    · have hj : vp_in (nI j) 32 := vp_in_nI (by omega) (by decide)
      exact br_f (by decide) (br_f (by decide) (br_f (by decide) (br_f (by decide) (br_f (by decide) (br_f (by decide) (br_f (by decide) (br_t (by decide) ⟨hj, hy _ (br_f hp_1n0 (br_t (by decide) (br_f (by decide) (br_t (by decide) ⟨hj, rfl, hp_mk hJ0⟩))))⟩)))))))
    · exact br_f (by decide) (br_t (by decide) (hy _ (br_f hp_1n0 (br_t (by decide) (br_f (by decide) (br_f (by decide) ⟨rfl, hp_mk hJ0⟩))))))
theorem i_vc_setSet {k : Nat} {u : SX} {v : SY} (I : i_Rel k u v) (hk : k + 5 ≤ 2562) (v1 : Int32) (v2 : Int32) (a2 : Int64) : wpX_setSet (fun r u' => wpY_setSet (fun r' v' => r' = r ∧ i_Rel (k + 5) u' v') v v1 v2 a2) u v1 v2 a2 := by
  obtain ⟨D, B, M, ic, pl, d, ep, ini, st, e, xs, c, s, nm, os, o1, o2, o3, o4, mp, mn, tk, sn, sb, it, pn, dc, ct, cn, sc, ss, sp, cu, fS, fP, fT, fX, fN, fL, rfl, rfl, hJ⟩ := I
  have hJ0 := hJ
  obtain ⟨⟨hD, hB, hM, hic, hpl, hd, hep⟩, hos, hz, hsn, hsb, hit, hpn, hdc⟩ := hJ
  unfold wpX_setSet
  rcases hv_ns v1 v2 hM with ⟨hx, hy⟩ | ⟨⟨a, j, rfl, rfl, hc⟩, hx, hy⟩
  · refine hx _ (br_t rfl ?_)
    unfold wpY_setSet
    exact hy _ (br_t rfl ⟨rfl, hp_mk hJ0⟩)
  · have hcj : (nI j).toNatClampNeg = j := nI_clamp (by omega)
    have ha : a = 0 ∨ a = 1 ∨ a = 2 ∨ a = 3 ∨ a = 4 ∨ a = 5 ∨ a = 6 := by omega
    refine hx _ (br_f hp_1n0 ?_)
    unfold wpY_setSet
    rcases ha with rfl | rfl | rfl | rfl | rfl | rfl | rfl
    · have hj : j < 16 := by omega
      obtain ⟨i1, i2⟩ := hv_ix 0 j (by decide) hj
      have e1 : vp_updL o1 (nI j).toNatClampNeg a2 = vp_updL o1 j a2 := by rw [hcj]
      have e2 : vp_updL os (nI 0 * 16 + nI j).toNatClampNeg a2 = vp_updL os j a2 := by rw [i1, Nat.mul_zero, Nat.zero_add]
      exact br_f (by decide) (br_f (by decide) (br_t (by decide) ⟨vp_in_nI hj (by decide), nm_r e1 (hx_disc (hy _ (br_f hp_1n0 (br_f (by decide) ⟨i2, nm_r e2 (hy_disc ⟨rfl, hp_mk (pl := 0) (d := 0) (ep := 0) ⟨⟨hD, hB, hM, hic, by decide, by decide, by decide⟩, hv_os0 hos hj a2, hz, hsn, hsb, hit, hpn, hdc⟩⟩)⟩))))⟩))
    · have hj : j < 16 := by omega
      obtain ⟨i1, i2⟩ := hv_ix 1 j (by decide) hj
      have e1 : vp_updL o2 (nI j).toNatClampNeg a2 = vp_updL o2 j a2 := by rw [hcj]
      have e2 : vp_updL os (nI 1 * 16 + nI j).toNatClampNeg a2 = vp_updL os (16 + j) a2 := by rw [i1]
      exact br_f (by decide) (br_f (by decide) (br_f (by decide) (br_t (by decide) ⟨vp_in_nI hj (by decide), nm_r e1 (hx_disc (hy _ (br_f hp_1n0 (br_f (by decide) ⟨i2, nm_r e2 (hy_disc ⟨rfl, hp_mk (pl := 0) (d := 0) (ep := 0) ⟨⟨hD, hB, hM, hic, by decide, by decide, by decide⟩, hv_os1 hos hj a2, hz, hsn, hsb, hit, hpn, hdc⟩⟩)⟩))))⟩)))
    · have hj : j < 16 := by omega
      obtain ⟨i1, i2⟩ := hv_ix 2 j (by decide) hj
      have e1 : vp_updL o3 (nI j).toNatClampNeg a2 = vp_updL o3 j a2 := by rw [hcj]
      have e2 : vp_updL os (nI 2 * 16 + nI j).toNatClampNeg a2 = vp_updL os (32 + j) a2 := by rw [i1]
      exact br_f (by decide) (br_f (by decide) (br_f (by decide) (br_f (by decide) (br_t (by decide) ⟨vp_in_nI hj (by decide), nm_r e1 (hx_disc (hy _ (br_f hp_1n0 (br_f (by decide) ⟨i2, nm_r e2 (hy_disc ⟨rfl, hp_mk (pl := 0) (d := 0) (ep := 0) ⟨⟨hD, hB, hM, hic, by decide, by decide, by decide⟩, hv_os2 hos hj a2, hz, hsn, hsb, hit, hpn, hdc⟩⟩)⟩))))⟩))))
    · have hj : j < 16 := by omega
      obtain ⟨i1, i2⟩ := hv_ix 3 j (by decide) hj
      have e1 : vp_updL o4 (nI j).toNatClampNeg a2 = vp_updL o4 j a2 := by rw [hcj]
      have e2 : vp_updL os (nI 3 * 16 + nI j).toNatClampNeg a2 = vp_updL os (48 + j) a2 := by rw [i1]
      exact br_f (by decide) (br_f (by decide) (br_f (by decide) (br_f (by decide) (br_f (by decide) (br_t (by decide) ⟨vp_in_nI hj (by decide), nm_r e1 (hx_disc (hy _ (br_f hp_1n0 (br_f (by decide) ⟨i2, nm_r e2 (hy_disc ⟨rfl, hp_mk (pl := 0) (d := 0) (ep := 0) ⟨⟨hD, hB, hM, hic, by decide, by decide, by decide⟩, hv_os3 hos hj a2, hz, hsn, hsb, hit, hpn, hdc⟩⟩)⟩))))⟩)))))
    · have hjM : j < M := by omega
      have hj : vp_in (nI j) 32 := vp_in_nI (by omega) (by decide)
      have e1 : vp_updL mp (nI j).toNatClampNeg a2 = vp_updL mp j a2 := by rw [hcj]
      exact br_f (by decide) (br_f (by decide) (br_f (by decide) (br_f (by decide) (br_f (by decide) (br_f (by decide) (br_t (by decide) ⟨hj, nm_r e1 (hx_disc (hy _ (br_f hp_1n0 (br_t (by decide) (br_t (by decide) ⟨hj, nm_r e1 (hy_disc ⟨rfl, hp_mk (pl := 0) (d := 0) (ep := 0) ⟨⟨hD, hB, hM, hic, by decide, by decide, by decide⟩, hos, fun i hi => ⟨(pk_uLn (by omega)).trans (hz i hi).1, (hz i hi).2⟩, hsn, hsb, hit, hpn, hdc⟩⟩)⟩)))))⟩))))))
    · have hjM : j < M := by omega
      have hj : vp_in (nI j) 32 := vp_in_nI (by omega) (by decide)
      have e1 : vp_updL mn (nI j).toNatClampNeg a2 = vp_updL mn j a2 := by rw [hcj]
      exact br_f (by decide) (br_f (by decide) (br_f (by decide) (br_f (by decide) (br_f (by decide) (br_f (by decide) (br_f (by decide) (br_t (by decide) ⟨hj, nm_r e1 (hx_disc (hy _ (br_f hp_1n0 (br_t (by decide) (br_f (by decide) (br_t (by decide) ⟨hj, nm_r e1 (hy_disc ⟨rfl, hp_mk (pl := 0) (d := 0) (ep := 0) ⟨⟨hD, hB, hM, hic, by decide, by decide, by decide⟩, hos, fun i hi => ⟨(hz i hi).1, (pk_uLn (by omega)).trans (hz i hi).2.1, (hz i hi).2.2⟩, hsn, hsb, hit, hpn, hdc⟩⟩)⟩))))))⟩)))))))
    · exact br_f (by decide) (br_t (by decide) (hx_disc (hy _ (br_f hp_1n0 (br_t (by decide) (br_f (by decide) (br_f (by decide) (hy_disc ⟨rfl, hp_mk (pl := 0) (d := 0) (ep := 0) ⟨⟨hD, hB, hM, hic, by decide, by decide, by decide⟩, hos, hz, hsn, hsb, hit, hpn, hdc⟩⟩))))))))
