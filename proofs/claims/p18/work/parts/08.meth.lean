theorem hv_b1 : narrow .boolean (.int 1) = .int 1 := rfl
theorem hp_1n0 : ¬ (1 : Int32) = 0 := by decide
section
variable {D B M ic : Nat} {ini : Int64} {st ge gp gd gx gn : Int32} {xs : Int64} {c : Int32} {s : Int64} {o1 o2 o3 o4 mp mn : Nat → Int64} {tk sn sb it pn dc ct cn sc : Nat → Int32} {ss : Nat → Int64} {sp : Nat → Int32}
theorem hq_set0 {post : Int32 → St2 → Prop} {j : Nat} {b : Int64} (hj : j < 16) (hp : post 1 (nI D, nI B, nI M, nI ic, ini, 0, 0, 0, 0, ini, 0, c, s, gn, vp_updL o1 j b, o2, o3, o4, mp, mn, tk, sn, sb, it, pn, dc, ct, cn, sc, ss, sp)) : wpX_setSet post (nI D, nI B, nI M, nI ic, ini, st, ge, gp, gd, xs, gx, c, s, gn, o1, o2, o3, o4, mp, mn, tk, sn, sb, it, pn, dc, ct, cn, sc, ss, sp) 0 (nI j) b := by
  have e1 : vp_updL o1 (nI j).toNatClampNeg b = vp_updL o1 j b := by rw [nI_clamp (by omega)]
  unfold wpX_setSet
  exact br_f (by decide) (br_t (by decide) (br_f (by decide) (br_f (nI_pos (by omega)) (br_f (nI_ge (b := 16) hj (by decide)) (br_f hp_1n0 (br_f (by decide) (br_f (by decide) (br_t (by decide) ⟨vp_in_nI hj (by decide), nm_r e1 (hx_disc hp)⟩))))))))
theorem hq_gs0 {post : Int64 → Prop} {j : Nat} (hj : j < 16) (hp : post (o1 j)) : wpX_getSet post (nI D, nI B, nI M, nI ic, ini, st, ge, gp, gd, xs, gx, c, s, gn, o1, o2, o3, o4, mp, mn, tk, sn, sb, it, pn, dc, ct, cn, sc, ss, sp) 0 (nI j) := by
  have e1 : o1 (nI j).toNatClampNeg = o1 j := by rw [nI_clamp (by omega)]
  unfold wpX_getSet
  exact br_f (by decide) (br_t (by decide) (br_f (by decide) (br_f (nI_pos (by omega)) (br_f (nI_ge (b := 16) hj (by decide)) (br_f hp_1n0 (br_f (by decide) (br_f (by decide) (br_t (by decide) ⟨vp_in_nI hj (by decide), e1.symm ▸ hp⟩))))))))
theorem hq_set1 {post : Int32 → St2 → Prop} {j : Nat} {b : Int64} (hj : j < 16) (hp : post 1 (nI D, nI B, nI M, nI ic, ini, 0, 0, 0, 0, ini, 0, c, s, gn, o1, vp_updL o2 j b, o3, o4, mp, mn, tk, sn, sb, it, pn, dc, ct, cn, sc, ss, sp)) : wpX_setSet post (nI D, nI B, nI M, nI ic, ini, st, ge, gp, gd, xs, gx, c, s, gn, o1, o2, o3, o4, mp, mn, tk, sn, sb, it, pn, dc, ct, cn, sc, ss, sp) 1 (nI j) b := by
  have e1 : vp_updL o2 (nI j).toNatClampNeg b = vp_updL o2 j b := by rw [nI_clamp (by omega)]
  unfold wpX_setSet
  exact br_f (by decide) (br_t (by decide) (br_f (by decide) (br_f (nI_pos (by omega)) (br_f (nI_ge (b := 16) hj (by decide)) (br_f hp_1n0 (br_f (by decide) (br_f (by decide) (br_f (by decide) (br_t (by decide) ⟨vp_in_nI hj (by decide), nm_r e1 (hx_disc hp)⟩)))))))))
theorem hq_gs1 {post : Int64 → Prop} {j : Nat} (hj : j < 16) (hp : post (o2 j)) : wpX_getSet post (nI D, nI B, nI M, nI ic, ini, st, ge, gp, gd, xs, gx, c, s, gn, o1, o2, o3, o4, mp, mn, tk, sn, sb, it, pn, dc, ct, cn, sc, ss, sp) 1 (nI j) := by
  have e1 : o2 (nI j).toNatClampNeg = o2 j := by rw [nI_clamp (by omega)]
  unfold wpX_getSet
  exact br_f (by decide) (br_t (by decide) (br_f (by decide) (br_f (nI_pos (by omega)) (br_f (nI_ge (b := 16) hj (by decide)) (br_f hp_1n0 (br_f (by decide) (br_f (by decide) (br_f (by decide) (br_t (by decide) ⟨vp_in_nI hj (by decide), e1.symm ▸ hp⟩)))))))))
theorem hq_set2 {post : Int32 → St2 → Prop} {j : Nat} {b : Int64} (hj : j < 16) (hp : post 1 (nI D, nI B, nI M, nI ic, ini, 0, 0, 0, 0, ini, 0, c, s, gn, o1, o2, vp_updL o3 j b, o4, mp, mn, tk, sn, sb, it, pn, dc, ct, cn, sc, ss, sp)) : wpX_setSet post (nI D, nI B, nI M, nI ic, ini, st, ge, gp, gd, xs, gx, c, s, gn, o1, o2, o3, o4, mp, mn, tk, sn, sb, it, pn, dc, ct, cn, sc, ss, sp) 2 (nI j) b := by
  have e1 : vp_updL o3 (nI j).toNatClampNeg b = vp_updL o3 j b := by rw [nI_clamp (by omega)]
  unfold wpX_setSet
  exact br_f (by decide) (br_t (by decide) (br_f (by decide) (br_f (nI_pos (by omega)) (br_f (nI_ge (b := 16) hj (by decide)) (br_f hp_1n0 (br_f (by decide) (br_f (by decide) (br_f (by decide) (br_f (by decide) (br_t (by decide) ⟨vp_in_nI hj (by decide), nm_r e1 (hx_disc hp)⟩))))))))))
theorem hq_gs2 {post : Int64 → Prop} {j : Nat} (hj : j < 16) (hp : post (o3 j)) : wpX_getSet post (nI D, nI B, nI M, nI ic, ini, st, ge, gp, gd, xs, gx, c, s, gn, o1, o2, o3, o4, mp, mn, tk, sn, sb, it, pn, dc, ct, cn, sc, ss, sp) 2 (nI j) := by
  have e1 : o3 (nI j).toNatClampNeg = o3 j := by rw [nI_clamp (by omega)]
  unfold wpX_getSet
  exact br_f (by decide) (br_t (by decide) (br_f (by decide) (br_f (nI_pos (by omega)) (br_f (nI_ge (b := 16) hj (by decide)) (br_f hp_1n0 (br_f (by decide) (br_f (by decide) (br_f (by decide) (br_f (by decide) (br_t (by decide) ⟨vp_in_nI hj (by decide), e1.symm ▸ hp⟩))))))))))
theorem hq_set3 {post : Int32 → St2 → Prop} {j : Nat} {b : Int64} (hj : j < 16) (hp : post 1 (nI D, nI B, nI M, nI ic, ini, 0, 0, 0, 0, ini, 0, c, s, gn, o1, o2, o3, vp_updL o4 j b, mp, mn, tk, sn, sb, it, pn, dc, ct, cn, sc, ss, sp)) : wpX_setSet post (nI D, nI B, nI M, nI ic, ini, st, ge, gp, gd, xs, gx, c, s, gn, o1, o2, o3, o4, mp, mn, tk, sn, sb, it, pn, dc, ct, cn, sc, ss, sp) 3 (nI j) b := by
  have e1 : vp_updL o4 (nI j).toNatClampNeg b = vp_updL o4 j b := by rw [nI_clamp (by omega)]
  unfold wpX_setSet
  exact br_f (by decide) (br_t (by decide) (br_f (by decide) (br_f (nI_pos (by omega)) (br_f (nI_ge (b := 16) hj (by decide)) (br_f hp_1n0 (br_f (by decide) (br_f (by decide) (br_f (by decide) (br_f (by decide) (br_f (by decide) (br_t (by decide) ⟨vp_in_nI hj (by decide), nm_r e1 (hx_disc hp)⟩)))))))))))
theorem hq_gs3 {post : Int64 → Prop} {j : Nat} (hj : j < 16) (hp : post (o4 j)) : wpX_getSet post (nI D, nI B, nI M, nI ic, ini, st, ge, gp, gd, xs, gx, c, s, gn, o1, o2, o3, o4, mp, mn, tk, sn, sb, it, pn, dc, ct, cn, sc, ss, sp) 3 (nI j) := by
  have e1 : o4 (nI j).toNatClampNeg = o4 j := by rw [nI_clamp (by omega)]
  unfold wpX_getSet
  exact br_f (by decide) (br_t (by decide) (br_f (by decide) (br_f (nI_pos (by omega)) (br_f (nI_ge (b := 16) hj (by decide)) (br_f hp_1n0 (br_f (by decide) (br_f (by decide) (br_f (by decide) (br_f (by decide) (br_f (by decide) (br_t (by decide) ⟨vp_in_nI hj (by decide), e1.symm ▸ hp⟩)))))))))))
theorem hq_set4 {post : Int32 → St2 → Prop} {j : Nat} {b : Int64} (hM : M ≤ 32) (hj : j < M) (hp : post 1 (nI D, nI B, nI M, nI ic, ini, 0, 0, 0, 0, ini, 0, c, s, gn, o1, o2, o3, o4, vp_updL mp j b, mn, tk, sn, sb, it, pn, dc, ct, cn, sc, ss, sp)) : wpX_setSet post (nI D, nI B, nI M, nI ic, ini, st, ge, gp, gd, xs, gx, c, s, gn, o1, o2, o3, o4, mp, mn, tk, sn, sb, it, pn, dc, ct, cn, sc, ss, sp) 4 (nI j) b := by
  have e1 : vp_updL mp (nI j).toNatClampNeg b = vp_updL mp j b := by rw [nI_clamp (by omega)]
  unfold wpX_setSet
  exact br_f (by decide) (br_t (by decide) (br_t (by decide) (br_f (by decide) (br_f (nI_pos (by omega)) (br_f (nI_ge hj (by omega)) ⟨hv_b1, br_f hp_1n0 (br_f (by decide) (br_f (by decide) (br_f (by decide) (br_f (by decide) (br_f (by decide) (br_f (by decide) (br_t (by decide) ⟨vp_in_nI (by omega) (by decide), nm_r e1 (hx_disc hp)⟩)))))))⟩)))))
theorem hq_gs4 {post : Int64 → Prop} {j : Nat} (hM : M ≤ 32) (hj : j < M) (hp : post (mp j)) : wpX_getSet post (nI D, nI B, nI M, nI ic, ini, st, ge, gp, gd, xs, gx, c, s, gn, o1, o2, o3, o4, mp, mn, tk, sn, sb, it, pn, dc, ct, cn, sc, ss, sp) 4 (nI j) := by
  have e1 : mp (nI j).toNatClampNeg = mp j := by rw [nI_clamp (by omega)]
  unfold wpX_getSet
  exact br_f (by decide) (br_t (by decide) (br_t (by decide) (br_f (by decide) (br_f (nI_pos (by omega)) (br_f (nI_ge hj (by omega)) ⟨hv_b1, br_f hp_1n0 (br_f (by decide) (br_f (by decide) (br_f (by decide) (br_f (by decide) (br_f (by decide) (br_f (by decide) (br_t (by decide) ⟨vp_in_nI (by omega) (by decide), e1.symm ▸ hp⟩)))))))⟩)))))
theorem hq_set5 {post : Int32 → St2 → Prop} {j : Nat} {b : Int64} (hM : M ≤ 32) (hj : j < M) (hp : post 1 (nI D, nI B, nI M, nI ic, ini, 0, 0, 0, 0, ini, 0, c, s, gn, o1, o2, o3, o4, mp, vp_updL mn j b, tk, sn, sb, it, pn, dc, ct, cn, sc, ss, sp)) : wpX_setSet post (nI D, nI B, nI M, nI ic, ini, st, ge, gp, gd, xs, gx, c, s, gn, o1, o2, o3, o4, mp, mn, tk, sn, sb, it, pn, dc, ct, cn, sc, ss, sp) 5 (nI j) b := by
  have e1 : vp_updL mn (nI j).toNatClampNeg b = vp_updL mn j b := by rw [nI_clamp (by omega)]
  unfold wpX_setSet
  exact br_f (by decide) (br_t (by decide) (br_t (by decide) (br_f (by decide) (br_f (nI_pos (by omega)) (br_f (nI_ge hj (by omega)) ⟨hv_b1, br_f hp_1n0 (br_f (by decide) (br_f (by decide) (br_f (by decide) (br_f (by decide) (br_f (by decide) (br_f (by decide) (br_f (by decide) (br_t (by decide) ⟨vp_in_nI (by omega) (by decide), nm_r e1 (hx_disc hp)⟩))))))))⟩)))))
theorem hq_gs5 {post : Int64 → Prop} {j : Nat} (hM : M ≤ 32) (hj : j < M) (hp : post (mn j)) : wpX_getSet post (nI D, nI B, nI M, nI ic, ini, st, ge, gp, gd, xs, gx, c, s, gn, o1, o2, o3, o4, mp, mn, tk, sn, sb, it, pn, dc, ct, cn, sc, ss, sp) 5 (nI j) := by
  have e1 : mn (nI j).toNatClampNeg = mn j := by rw [nI_clamp (by omega)]
  unfold wpX_getSet
  exact br_f (by decide) (br_t (by decide) (br_t (by decide) (br_f (by decide) (br_f (nI_pos (by omega)) (br_f (nI_ge hj (by omega)) ⟨hv_b1, br_f hp_1n0 (br_f (by decide) (br_f (by decide) (br_f (by decide) (br_f (by decide) (br_f (by decide) (br_f (by decide) (br_f (by decide) (br_t (by decide) ⟨vp_in_nI (by omega) (by decide), e1.symm ▸ hp⟩))))))))⟩)))))
theorem hq_set6 {post : Int32 → St2 → Prop} {b : Int64} (hp : post 1 (nI D, nI B, nI M, nI ic, b, 0, 0, 0, 0, b, 0, c, s, gn, o1, o2, o3, o4, mp, mn, tk, sn, sb, it, pn, dc, ct, cn, sc, ss, sp)) : wpX_setSet post (nI D, nI B, nI M, nI ic, ini, st, ge, gp, gd, xs, gx, c, s, gn, o1, o2, o3, o4, mp, mn, tk, sn, sb, it, pn, dc, ct, cn, sc, ss, sp) 6 0 b := by
  unfold wpX_setSet
  exact br_f (by decide) (br_t (by decide) (br_t (by decide) (br_t (by decide) (br_t rfl (br_f hp_1n0 (br_f (by decide) (br_t (by decide) (hx_disc hp))))))))
theorem hq_it {post : Int32 → Prop} {j : Nat} (h : j < 32) (hp : post 1) : wpX_isTask post () (nI j) := br_f (nI_pos (by omega)) (br_f (nI_ge (b := 32) h (by decide)) hp)
theorem hq_am {post : Int32 → St2 → Prop} {t : Nat} (h16 : 16 ≤ t) (h32 : t < 32) (hM : M < 32) (hp : post (nI M) (nI D, nI B, nI (M + 1), nI ic, ini, 0, 0, 0, 0, ini, 0, c, s, gn, o1, o2, o3, o4, mp, mn, upd tk M (nI t), sn, sb, it, pn, dc, ct, cn, sc, ss, sp)) : wpX_addMethod post (nI D, nI B, nI M, nI ic, ini, st, ge, gp, gd, xs, gx, c, s, gn, o1, o2, o3, o4, mp, mn, tk, sn, sb, it, pn, dc, ct, cn, sc, ss, sp) (nI t) := by
  have e1 : upd tk (nI M).toNatClampNeg (nI t) = upd tk M (nI t) := by rw [nI_clamp (by omega)]
  unfold wpX_addMethod
  exact hq_it h32 (br_f hp_1n0 (hx_prim_f (nI_nlt (b := 16) h16 (by omega)) (br_t rfl (br_t (nI_lt (b := 32) hM (by decide)) ⟨vp_in_nI hM (by decide), nm_r e1 (nm_r (nI_1 M) (hx_disc hp))⟩))))
theorem hq_as {post : Int32 → St2 → Prop} {m t q : Nat} (hM : M ≤ 32) (hm : m < M) (h32 : t < 32) (hq : sn m = nI q) (hq4 : q < 4) (hp : post 1 (nI D, nI B, nI M, nI ic, ini, 0, 0, 0, 0, ini, 0, c, s, gn, o1, o2, o3, o4, mp, mn, tk, upd sn m (nI (q + 1)), upd sb (m * 4 + q) (nI t), it, pn, dc, ct, cn, sc, ss, sp)) : wpX_addSubtask post (nI D, nI B, nI M, nI ic, ini, st, ge, gp, gd, xs, gx, c, s, gn, o1, o2, o3, o4, mp, mn, tk, sn, sb, it, pn, dc, ct, cn, sc, ss, sp) (nI m) (nI t) := by
  have hi : vp_in (nI m) 32 := vp_in_nI (by omega) (by decide)
  have eq' : sn (nI m).toNatClampNeg = nI q := by rw [nI_clamp (by omega)]; exact hq
  have t4 : sn (nI m).toNatClampNeg < 4 := by rw [eq']; exact nI_lt (b := 4) hq4 (by decide)
  have hix : nI m * 4 + sn (nI m).toNatClampNeg = nI (m * 4 + q) := by rw [eq', hp_4, pk_mul, nI_add]
  have hv : vp_in (nI m * 4 + sn (nI m).toNatClampNeg) 128 := by rw [hix]; exact vp_in_nI (by omega) (by decide)
  have e1 : upd sb (nI m * 4 + sn (nI m).toNatClampNeg).toNatClampNeg (nI t) = upd sb (m * 4 + q) (nI t) := by rw [hix, nI_clamp (by omega)]
  have e2 : upd sn (nI m).toNatClampNeg (sn (nI m).toNatClampNeg + 1) = upd sn m (nI (q + 1)) := by rw [eq', nI_clamp (by omega), nI_1]
  unfold wpX_addSubtask
  exact br_f (nI_pos (by omega)) (br_f (nI_ge hm (by omega)) (br_f hp_1n0 (hq_it h32 (br_f hp_1n0 ⟨hi, br_t t4 ⟨hi, hv, nm_r e1 ⟨hi, hi, nm_r e2 (hx_disc hp)⟩⟩⟩))))
theorem hq_ai {post : Int32 → St2 → Prop} {t : Nat} (h32 : t < 32) (h8 : ic < 8) (hp : post 1 (nI D, nI B, nI M, nI (ic + 1), ini, 0, 0, 0, 0, ini, 0, c, s, gn, o1, o2, o3, o4, mp, mn, tk, sn, sb, upd it ic (nI t), pn, dc, ct, cn, sc, ss, sp)) : wpX_addInitialTask post (nI D, nI B, nI M, nI ic, ini, st, ge, gp, gd, xs, gx, c, s, gn, o1, o2, o3, o4, mp, mn, tk, sn, sb, it, pn, dc, ct, cn, sc, ss, sp) (nI t) := by
  have e1 : upd it (nI ic).toNatClampNeg (nI t) = upd it ic (nI t) := by rw [nI_clamp (by omega)]
  unfold wpX_addInitialTask
  exact hq_it h32 (br_f hp_1n0 (br_t (nI_lt (b := 8) h8 (by decide)) ⟨vp_in_nI h8 (by decide), nm_r e1 (nm_r (nI_1 ic) (hx_disc hp))⟩))
theorem hq_i0 {post : Int32 → Prop} (hp : post st) : wpX_getInfo post (nI D, nI B, nI M, nI ic, ini, st, ge, gp, gd, xs, gx, c, s, gn, o1, o2, o3, o4, mp, mn, tk, sn, sb, it, pn, dc, ct, cn, sc, ss, sp) 0 := br_f (by decide) (br_f (by decide) (br_t rfl hp))
theorem hq_i1 {post : Int32 → Prop} (hp : post gp) : wpX_getInfo post (nI D, nI B, nI M, nI ic, ini, st, ge, gp, gd, xs, gx, c, s, gn, o1, o2, o3, o4, mp, mn, tk, sn, sb, it, pn, dc, ct, cn, sc, ss, sp) 1 := br_f (by decide) (br_f (by decide) (br_f (by decide) (br_t rfl hp)))
theorem hq_i2 {post : Int32 → Prop} (hp : post gd) : wpX_getInfo post (nI D, nI B, nI M, nI ic, ini, st, ge, gp, gd, xs, gx, c, s, gn, o1, o2, o3, o4, mp, mn, tk, sn, sb, it, pn, dc, ct, cn, sc, ss, sp) 2 := br_f (by decide) (br_f (by decide) (br_f (by decide) (br_f (by decide) (br_t rfl hp))))
theorem hq_i3 {post : Int32 → Prop} (hp : post ge) : wpX_getInfo post (nI D, nI B, nI M, nI ic, ini, st, ge, gp, gd, xs, gx, c, s, gn, o1, o2, o3, o4, mp, mn, tk, sn, sb, it, pn, dc, ct, cn, sc, ss, sp) 3 := br_f (by decide) (br_f (by decide) (br_f (by decide) (br_f (by decide) (br_f (by decide) (br_t rfl hp)))))
theorem hq_i4 {post : Int32 → Prop} (hp : post gx) : wpX_getInfo post (nI D, nI B, nI M, nI ic, ini, st, ge, gp, gd, xs, gx, c, s, gn, o1, o2, o3, o4, mp, mn, tk, sn, sb, it, pn, dc, ct, cn, sc, ss, sp) 4 := br_f (by decide) (br_f (by decide) (br_f (by decide) (br_f (by decide) (br_f (by decide) (br_f (by decide) (br_t rfl hp))))))
theorem hq_gp {post : Int32 → Prop} {i n : Nat} (hn : n ≤ 32) (hi : i < n) (hg : gp = nI n) (hp : post (pn i)) : wpX_getPlanStep post (nI D, nI B, nI M, nI ic, ini, st, ge, gp, gd, xs, gx, c, s, gn, o1, o2, o3, o4, mp, mn, tk, sn, sb, it, pn, dc, ct, cn, sc, ss, sp) (nI i) := by
  subst hg
  have e1 : pn (nI i).toNatClampNeg = pn i := by rw [nI_clamp (by omega)]
  exact br_f (nI_pos (by omega)) (br_f (nI_ge hi (by omega)) ⟨vp_in_nI (by omega) (by decide), e1.symm ▸ hp⟩)
theorem hq_gd {post : Int32 → Prop} {i n : Nat} (hn : n ≤ 16) (hi : i < n) (hg : gd = nI n) (hp : post (dc i)) : wpX_getDecompMethod post (nI D, nI B, nI M, nI ic, ini, st, ge, gp, gd, xs, gx, c, s, gn, o1, o2, o3, o4, mp, mn, tk, sn, sb, it, pn, dc, ct, cn, sc, ss, sp) (nI i) := by
  subst hg
  have e1 : dc (nI i).toNatClampNeg = dc i := by rw [nI_clamp (by omega)]
  exact br_f (nI_pos (by omega)) (br_f (nI_ge hi (by omega)) ⟨vp_in_nI (by omega) (by decide), e1.symm ▸ hp⟩)
theorem hq_gt {post : Int32 → Prop} {i : Nat} (hn : ic ≤ 8) (hi : i < ic) (hp : post (it i)) : wpX_getInitialTask post (nI D, nI B, nI M, nI ic, ini, st, ge, gp, gd, xs, gx, c, s, gn, o1, o2, o3, o4, mp, mn, tk, sn, sb, it, pn, dc, ct, cn, sc, ss, sp) (nI i) := by
  have e1 : it (nI i).toNatClampNeg = it i := by rw [nI_clamp (by omega)]
  exact br_f (nI_pos (by omega)) (br_f (nI_ge hi (by omega)) ⟨vp_in_nI (by omega) (by decide), e1.symm ▸ hp⟩)
theorem hq_me0 {post : Int32 → Prop} {m q : Nat} (hM : M ≤ 32) (hm : m < M) (hq : sn m = nI q) (hq5 : q < 5) (hp : post (tk m)) : wpX_getMethodEntry post (nI D, nI B, nI M, nI ic, ini, st, ge, gp, gd, xs, gx, c, s, gn, o1, o2, o3, o4, mp, mn, tk, sn, sb, it, pn, dc, ct, cn, sc, ss, sp) (nI m) 0 := by
  have hi : vp_in (nI m) 32 := vp_in_nI (by omega) (by decide)
  have eq' : sn (nI m).toNatClampNeg = nI q := by rw [nI_clamp (by omega)]; exact hq
  have hl : (0 : Int32) ≤ sn (nI m).toNatClampNeg := by rw [eq']; exact nI_pos' (by omega)
  have e1 : tk (nI m).toNatClampNeg = tk m := by rw [nI_clamp (by omega)]
  unfold wpX_getMethodEntry
  exact br_f (nI_pos (by omega)) (br_f (nI_ge hm (by omega)) (br_f hp_1n0 (br_f (by decide) ⟨hi, br_t hl (br_t rfl ⟨hi, e1.symm ▸ hp⟩)⟩)))
theorem hq_mek {post : Int32 → Prop} {m q k : Nat} (hM : M ≤ 32) (hm : m < M) (hq : sn m = nI q) (hq5 : q < 5) (hk : k < q) (hp : post (sb (m * 4 + k))) : wpX_getMethodEntry post (nI D, nI B, nI M, nI ic, ini, st, ge, gp, gd, xs, gx, c, s, gn, o1, o2, o3, o4, mp, mn, tk, sn, sb, it, pn, dc, ct, cn, sc, ss, sp) (nI m) (nI (k + 1)) := by
  have hi : vp_in (nI m) 32 := vp_in_nI (by omega) (by decide)
  have eq' : sn (nI m).toNatClampNeg = nI q := by rw [nI_clamp (by omega)]; exact hq
  have hl : nI (k + 1) ≤ sn (nI m).toNatClampNeg := by rw [eq']; exact nI_le (by omega) (by omega)
  have hix : nI m * 4 + nI (k + 1) - 1 = nI (m * 4 + k) := by rw [hp_4, pk_mul, nI_add, ← Nat.add_assoc, nI_pred]
  have hv : vp_in (nI m * 4 + nI (k + 1) - 1) 128 := by rw [hix]; exact vp_in_nI (by omega) (by decide)
  have e1 : sb (nI m * 4 + nI (k + 1) - 1).toNatClampNeg = sb (m * 4 + k) := by rw [hix, nI_clamp (by omega)]
  unfold wpX_getMethodEntry
  exact br_f (nI_pos (by omega)) (br_f (nI_ge hm (by omega)) (br_f hp_1n0 (br_f (nI_pos (by omega)) ⟨hi, br_t hl (br_f (nI_ne0 (Nat.succ_pos k) (by omega)) ⟨hv, e1.symm ▸ hp⟩)⟩)))
theorem hq_men {post : Int32 → Prop} {m q k : Nat} (hM : M ≤ 32) (hm : m < M) (hq : sn m = nI q) (hq5 : q < 5) (hk : q < k) (hk5 : k < 6) (hp : post (-1)) : wpX_getMethodEntry post (nI D, nI B, nI M, nI ic, ini, st, ge, gp, gd, xs, gx, c, s, gn, o1, o2, o3, o4, mp, mn, tk, sn, sb, it, pn, dc, ct, cn, sc, ss, sp) (nI m) (nI k) := by
  have hi : vp_in (nI m) 32 := vp_in_nI (by omega) (by decide)
  have eq' : sn (nI m).toNatClampNeg = nI q := by rw [nI_clamp (by omega)]; exact hq
  have hl : ¬ nI k ≤ sn (nI m).toNatClampNeg := by rw [eq']; exact nI_ge hk (by omega)
  unfold wpX_getMethodEntry
  exact br_f (nI_pos (by omega)) (br_f (nI_ge hm (by omega)) (br_f hp_1n0 (br_f (nI_pos (by omega)) ⟨hi, br_f hl hp⟩)))
theorem hq_ex1 {post : Int32 → St2 → Prop} {i n : Nat} (h1 : st = 1) (hn : n ≤ 32) (hi : i < n) (hg : gp = nI n) (hpn : hp_nb 16 pn) (ha : hp_ap xs (o1 (pn i).toNatClampNeg) (o2 (pn i).toNatClampNeg)) (hp : post (pn i) (nI D, nI B, nI M, nI ic, ini, st, ge, gp, gd, (xs &&& (o4 (pn i).toNatClampNeg ^^^ (-1))) ||| o3 (pn i).toNatClampNeg, nI (i + 1), c, s, gn, o1, o2, o3, o4, mp, mn, tk, sn, sb, it, pn, dc, ct, cn, sc, ss, sp)) : wpX_executeStep post (nI D, nI B, nI M, nI ic, ini, st, ge, gp, gd, xs, nI i, c, s, gn, o1, o2, o3, o4, mp, mn, tk, sn, sb, it, pn, dc, ct, cn, sc, ss, sp) := by
  subst hg
  obtain ⟨j, hj, ej⟩ := hpn i
  have e1 : pn (nI i).toNatClampNeg = pn i := by rw [nI_clamp (by omega)]
  have hv : vp_in (pn i) 16 := by rw [ej]; exact vp_in_nI hj (by decide)
  exact br_t h1 (br_t (nI_lt hi (by omega)) ⟨vp_in_nI (by omega) (by decide), nm_r e1 ⟨hv, hv, hx_ap_t ha (br_f hp_1n0 ⟨hv, hv, nm_r (nI_1 i) hp⟩)⟩⟩)
theorem hq_ex0 {post : Int32 → St2 → Prop} {i n : Nat} (hn : n ≤ 32) (hi : n ≤ i) (hi2 : i ≤ 32) (hg : gp = nI n) (hp : post (-1) (nI D, nI B, nI M, nI ic, ini, st, ge, gp, gd, xs, nI i, c, s, gn, o1, o2, o3, o4, mp, mn, tk, sn, sb, it, pn, dc, ct, cn, sc, ss, sp)) : wpX_executeStep post (nI D, nI B, nI M, nI ic, ini, st, ge, gp, gd, xs, nI i, c, s, gn, o1, o2, o3, o4, mp, mn, tk, sn, sb, it, pn, dc, ct, cn, sc, ss, sp) := by
  subst hg
  exact br_c (fun _ => br_f (nI_nlt hi (by omega)) hp) (fun _ => hp)
theorem hq_exn {post : Int32 → St2 → Prop} (h1 : ¬ st = 1) (hp : post (-1) (nI D, nI B, nI M, nI ic, ini, st, ge, gp, gd, xs, gx, c, s, gn, o1, o2, o3, o4, mp, mn, tk, sn, sb, it, pn, dc, ct, cn, sc, ss, sp)) : wpX_executeStep post (nI D, nI B, nI M, nI ic, ini, st, ge, gp, gd, xs, gx, c, s, gn, o1, o2, o3, o4, mp, mn, tk, sn, sb, it, pn, dc, ct, cn, sc, ss, sp) := br_f h1 hp
end
