theorem hv_uz {f : Nat → Int64} {k : Nat} (h : f k = 0) : vp_updL f k 0 = f := by
  funext j
  by_cases e : j = k
  · rw [e, pk_uLs, h]
  · rw [pk_uLn e]
theorem hv_uzI {f : Nat → Int32} {k : Nat} (h : f k = 0) : upd f k 0 = f := by
  funext j
  by_cases e : j = k
  · rw [e, pk_us, h]
  · rw [pk_un e]
theorem i_vc_addMethod {k : Nat} {u : SX} {v : SY} (I : i_Rel k u v) (hk : k + 5 ≤ 2562) (v1 : Int32) : wpX_addMethod (fun r u' => wpY_addMethod (fun r' v' => r' = r ∧ i_Rel (k + 5) u' v') v v1) u v1 := by
  obtain ⟨D, B, M, ic, pl, d, ep, ini, st, e, xs, c, s, nm, os, o1, o2, o3, o4, mp, mn, tk, sn, sb, it, pn, dc, ct, cn, sc, ss, sp, cu, fS, fP, fT, fX, fN, fL, rfl, rfl, hJ⟩ := I
  have hJ0 := hJ
  obtain ⟨⟨hD, hB, hM, hic, hpl, hd, hep⟩, hos, hz, hsn, hsb, hit, hpn, hdc⟩ := hJ
  unfold wpX_addMethod
  rcases pk_ix v1 (n := 32) (by decide) with h | h | ⟨j, hj, rfl⟩
  · have h16 : v1 < 16 := Int32.lt_trans h (by decide)
    exact hx_it_lt h (br_t rfl (br_t h16 ⟨rfl, hp_mk hJ0⟩))
  · have h16 : ¬ v1 < 16 := Int32.not_lt.mpr (Int32.le_trans (by decide : (16 : Int32) ≤ nI 32) h)
    have h31 : ¬ v1 ≤ 31 := fun z => absurd (Int32.le_trans h z) (by decide)
    exact hx_it_ge h (br_t rfl (br_f h16 (br_f h31 ⟨rfl, hp_mk hJ0⟩)))
  · by_cases hj16 : j < 16
    · have h16 : nI j < 16 := nI_lt (b := 16) hj16 (by decide)
      exact hx_it_in hj (br_f hp_1n0 (hx_prim_t h16 (br_f hp_1n0 (br_t h16 ⟨rfl, hp_mk hJ0⟩))))
    · have h16 : ¬ nI j < 16 := nI_nlt (b := 16) (by omega) (by omega)
      have h31 : nI j ≤ 31 := nI_le (b := 31) (by omega) (by decide)
      by_cases hM32 : M < 32
      · have t32 : nI M < 32 := nI_lt (b := 32) hM32 (by decide)
        have hi : vp_in (nI M) 32 := vp_in_nI hM32 (by decide)
        have hcM : (nI M).toNatClampNeg = M := nI_clamp (by omega)
        obtain ⟨z1, z2, z3⟩ := hz M (Nat.le_refl M)
        have e1 : upd tk (nI M).toNatClampNeg (nI j) = upd tk M (nI j) := by rw [hcM]
        have e2 : vp_updL mp (nI M).toNatClampNeg 0 = mp := by rw [hcM]; exact hv_uz z1
        have e3 : vp_updL mn (nI M).toNatClampNeg 0 = mn := by rw [hcM]; exact hv_uz z2
        have e4 : upd sn (nI M).toNatClampNeg 0 = sn := by rw [hcM]; exact hv_uzI z3
        refine hx_it_in hj (br_f hp_1n0 (hx_prim_f h16 (br_t rfl (br_t t32 ⟨hi, nm_r e1 (nm_r (nI_1 M) (hx_disc ?_))⟩))))
        refine br_f h16 (br_t h31 (br_t t32 ⟨hi, nm_r e1 ⟨hi, nm_r e2 ⟨hi, nm_r e3 ⟨hi, nm_r e4 (nm_r (nI_1 M) (hy_disc ?_))⟩⟩⟩⟩))
        exact ⟨rfl, hp_mk (pl := 0) (d := 0) (ep := 0) ⟨⟨hD, hB, by omega, hic, by decide, by decide, by decide⟩, hos, fun i hi => hz i (by omega), hsn, hsb, hit, hpn, hdc⟩⟩
      · have t32 : ¬ nI M < 32 := nI_nlt (b := 32) (by omega) (by omega)
        exact hx_it_in hj (br_f hp_1n0 (hx_prim_f h16 (br_t rfl (br_f t32 (br_f h16 (br_t h31 (br_f t32 ⟨rfl, hp_mk hJ0⟩)))))))
theorem i_vc_addInitialTask {k : Nat} {u : SX} {v : SY} (I : i_Rel k u v) (hk : k + 5 ≤ 2562) (v1 : Int32) : wpX_addInitialTask (fun r u' => wpY_addInitialTask (fun r' v' => r' = r ∧ i_Rel (k + 5) u' v') v v1) u v1 := by
  obtain ⟨D, B, M, ic, pl, d, ep, ini, st, e, xs, c, s, nm, os, o1, o2, o3, o4, mp, mn, tk, sn, sb, it, pn, dc, ct, cn, sc, ss, sp, cu, fS, fP, fT, fX, fN, fL, rfl, rfl, hJ⟩ := I
  have hJ0 := hJ
  obtain ⟨⟨hD, hB, hM, hic, hpl, hd, hep⟩, hos, hz, hsn, hsb, hit, hpn, hdc⟩ := hJ
  unfold wpX_addInitialTask
  rcases pk_ix v1 (n := 32) (by decide) with h | h | ⟨j, hj, rfl⟩
  · exact hx_it_lt h (br_t rfl (br_t h ⟨rfl, hp_mk hJ0⟩))
  · have h0 : ¬ v1 < 0 := Int32.not_lt.mpr (Int32.le_trans (nI_pos' (by decide)) h)
    have h31 : ¬ v1 ≤ 31 := fun z => absurd (Int32.le_trans h z) (by decide)
    exact hx_it_ge h (br_t rfl (br_f h0 (br_f h31 ⟨rfl, hp_mk hJ0⟩)))
  · have h0 : ¬ nI j < 0 := nI_pos (by omega)
    have h31 : nI j ≤ 31 := nI_le (b := 31) (by omega) (by decide)
    by_cases h8 : ic < 8
    · have t8 : nI ic < 8 := nI_lt (b := 8) h8 (by decide)
      have hi : vp_in (nI ic) 8 := vp_in_nI h8 (by decide)
      have e1 : upd it (nI ic).toNatClampNeg (nI j) = upd it ic (nI j) := by rw [nI_clamp (by omega)]
      refine hx_it_in hj (br_f hp_1n0 (br_t t8 ⟨hi, nm_r e1 (nm_r (nI_1 ic) (hx_disc ?_))⟩))
      refine br_f h0 (br_t h31 (br_t t8 ⟨hi, nm_r e1 (nm_r (nI_1 ic) (hy_disc ?_))⟩))
      exact ⟨rfl, hp_mk (pl := 0) (d := 0) (ep := 0) ⟨⟨hD, hB, hM, by omega, by decide, by decide, by decide⟩, hos, hz, hsn, hsb, hp_nb_u hit ic ⟨j, hj, rfl⟩, hpn, hdc⟩⟩
    · have t8 : ¬ nI ic < 8 := nI_nlt (b := 8) (by omega) (by omega)
      exact hx_it_in hj (br_f hp_1n0 (br_f t8 (br_f h0 (br_t h31 (br_f t8 ⟨rfl, hp_mk hJ0⟩)))))
theorem i_vc_addSubtask {k : Nat} {u : SX} {v : SY} (I : i_Rel k u v) (hk : k + 5 ≤ 2562) (v1 : Int32) (v2 : Int32) : wpX_addSubtask (fun r u' => wpY_addSubtask (fun r' v' => r' = r ∧ i_Rel (k + 5) u' v') v v1 v2) u v1 v2 := by
  obtain ⟨D, B, M, ic, pl, d, ep, ini, st, e, xs, c, s, nm, os, o1, o2, o3, o4, mp, mn, tk, sn, sb, it, pn, dc, ct, cn, sc, ss, sp, cu, fS, fP, fT, fX, fN, fL, rfl, rfl, hJ⟩ := I
  have hJ0 := hJ
  obtain ⟨⟨hD, hB, hM, hic, hpl, hd, hep⟩, hos, hz, hsn, hsb, hit, hpn, hdc⟩ := hJ
  unfold wpX_addSubtask
  rcases pk_ix v1 (n := M) (by omega) with h | h | ⟨m, hm, rfl⟩
  · exact hx_im_lt h (br_t rfl (br_t h ⟨rfl, hp_mk hJ0⟩))
  · have h0 : ¬ v1 < 0 := Int32.not_lt.mpr (Int32.le_trans (nI_pos' (by omega)) h)
    exact hx_im_ge hM h (br_t rfl (br_f h0 (br_f (Int32.not_lt.mpr h) ⟨rfl, hp_mk hJ0⟩)))
  · have m0 : ¬ nI m < 0 := nI_pos (by omega)
    have mM : nI m < nI M := nI_lt hm (by omega)
    have hi : vp_in (nI m) 32 := vp_in_nI (by omega) (by decide)
    have hcm : (nI m).toNatClampNeg = m := nI_clamp (by omega)
    refine hx_im_in hM hm (br_f hp_1n0 ?_)
    rcases pk_ix v2 (n := 32) (by decide) with h | h | ⟨j, hj, rfl⟩
    · exact hx_it_lt h (br_t rfl (br_f m0 (br_t mM (br_t h ⟨rfl, hp_mk hJ0⟩))))
    · have h0 : ¬ v2 < 0 := Int32.not_lt.mpr (Int32.le_trans (nI_pos' (by decide)) h)
      have h31 : ¬ v2 ≤ 31 := fun z => absurd (Int32.le_trans h z) (by decide)
      exact hx_it_ge h (br_t rfl (br_f m0 (br_t mM (br_f h0 (br_f h31 ⟨rfl, hp_mk hJ0⟩)))))
    · have h0 : ¬ nI j < 0 := nI_pos (by omega)
      have h31 : nI j ≤ 31 := nI_le (b := 31) (by omega) (by decide)
      obtain ⟨q, hq, eq⟩ := hsn m
      have eq' : sn (nI m).toNatClampNeg = nI q := by rw [hcm]; exact eq
      refine hx_it_in hj (br_f hp_1n0 ⟨hi, ?_⟩)
      by_cases h4 : q < 4
      · have t4 : sn (nI m).toNatClampNeg < 4 := by rw [eq']; exact nI_lt (b := 4) h4 (by decide)
        have hix : nI m * 4 + sn (nI m).toNatClampNeg = nI (m * 4 + q) := by rw [eq', hp_4, pk_mul, nI_add]
        have hv : vp_in (nI m * 4 + sn (nI m).toNatClampNeg) 128 := by rw [hix]; exact vp_in_nI (by omega) (by decide)
        have e1 : upd sb (nI m * 4 + sn (nI m).toNatClampNeg).toNatClampNeg (nI j) = upd sb (m * 4 + q) (nI j) := by rw [hix, nI_clamp (by omega)]
        have e2 : upd sn (nI m).toNatClampNeg (sn (nI m).toNatClampNeg + 1) = upd sn m (nI (q + 1)) := by rw [eq', hcm, nI_1]
        refine br_t t4 ⟨hi, hv, nm_r e1 ⟨hi, hi, nm_r e2 (hx_disc ?_)⟩⟩
        refine br_f m0 (br_t mM (br_f h0 (br_t h31 ⟨hi, br_t t4 ⟨hi, hv, nm_r e1 ⟨hi, hi, nm_r e2 (hy_disc ?_)⟩⟩⟩)))
        exact ⟨rfl, hp_mk (pl := 0) (d := 0) (ep := 0) ⟨⟨hD, hB, hM, hic, by decide, by decide, by decide⟩, hos, fun i hi => ⟨(hz i hi).1, (hz i hi).2.1, (pk_un (by omega)).trans (hz i hi).2.2⟩, hp_nb_u hsn m ⟨q + 1, by omega, rfl⟩, hp_nb_u hsb _ ⟨j, hj, rfl⟩, hit, hpn, hdc⟩⟩
      · have t4 : ¬ sn (nI m).toNatClampNeg < 4 := by rw [eq']; exact nI_nlt (b := 4) (by omega) (by omega)
        exact br_f t4 (br_f m0 (br_t mM (br_f h0 (br_t h31 ⟨hi, br_f t4 ⟨rfl, hp_mk hJ0⟩⟩))))
theorem i_vc_getMethodEntry {k : Nat} {u : SX} {v : SY} (I : i_Rel k u v) (hk : k + 5 ≤ 2562) (v1 : Int32) (v2 : Int32) : wpX_getMethodEntry (fun r => wpY_getMethodEntry (fun r' => r' = r ∧ i_Rel (k + 5) u v) v v1 v2) u v1 v2 := by
  obtain ⟨D, B, M, ic, pl, d, ep, ini, st, e, xs, c, s, nm, os, o1, o2, o3, o4, mp, mn, tk, sn, sb, it, pn, dc, ct, cn, sc, ss, sp, cu, fS, fP, fT, fX, fN, fL, rfl, rfl, hJ⟩ := I
  have hJ0 := hJ
  obtain ⟨⟨hD, hB, hM, hic, hpl, hd, hep⟩, hos, hz, hsn, hsb, hit, hpn, hdc⟩ := hJ
  unfold wpX_getMethodEntry
  rcases pk_ix v1 (n := M) (by omega) with h | h | ⟨m, hm, rfl⟩
  · exact hx_im_lt h (br_t rfl (br_t h ⟨rfl, hp_mk hJ0⟩))
  · have h0 : ¬ v1 < 0 := Int32.not_lt.mpr (Int32.le_trans (nI_pos' (by omega)) h)
    exact hx_im_ge hM h (br_t rfl (br_f h0 (br_f (Int32.not_lt.mpr h) ⟨rfl, hp_mk hJ0⟩)))
  · have m0 : ¬ nI m < 0 := nI_pos (by omega)
    have mM : nI m < nI M := nI_lt hm (by omega)
    have hi : vp_in (nI m) 32 := vp_in_nI (by omega) (by decide)
    have hcm : (nI m).toNatClampNeg = m := nI_clamp (by omega)
    obtain ⟨q, hq, eq⟩ := hsn m
    have eq' : sn (nI m).toNatClampNeg = nI q := by rw [hcm]; exact eq
    refine hx_im_in hM hm (br_f hp_1n0 ?_)
    rcases pk_ix v2 (n := q + 1) (by omega) with h | h | ⟨j, hj, rfl⟩
    · have h1 : v2 < 1 := Int32.lt_trans h (by decide)
      exact br_t h (br_f m0 (br_t mM (br_f (hv_neg h 0 (by decide)) (br_t h1 ⟨rfl, hp_mk hJ0⟩))))
    · have h0 : ¬ v2 < 0 := Int32.not_lt.mpr (Int32.le_trans (nI_pos' (by omega)) h)
      have hl : sn (nI m).toNatClampNeg < v2 := by rw [eq']; exact Int32.lt_of_lt_of_le (nI_lt (Nat.lt_succ_self q) (by omega)) h
      have h1 : ¬ v2 < 1 := Int32.not_lt.mpr (Int32.le_trans (nI_le (a := 1) (b := q + 1) (by omega) (by omega)) h)
      have hn : ¬ v2 ≤ sn (nI m).toNatClampNeg := fun z => Int32.not_lt.mpr z hl
      exact br_f h0 ⟨hi, br_f hn (br_f m0 (br_t mM (br_f (hv_big (by omega) h 0 (by omega)) (br_f h1 ⟨hi, br_t hl ⟨rfl, hp_mk hJ0⟩⟩))))⟩
    · have h0 : ¬ nI j < 0 := nI_pos (by omega)
      have hl : nI j ≤ sn (nI m).toNatClampNeg := by rw [eq']; exact nI_le (by omega) (by omega)
      by_cases hj0 : j = 0
      · subst hj0
        exact br_f h0 ⟨hi, br_t hl (br_t nI_0 ⟨hi, br_f m0 (br_t mM (br_t nI_0 ⟨hi, rfl, hp_mk hJ0⟩))⟩)⟩
      · obtain ⟨j, rfl⟩ : ∃ j', j = j' + 1 := ⟨j - 1, by omega⟩
        have n0 : ¬ nI (j + 1) = 0 := nI_ne0 (Nat.succ_pos j) (by omega)
        have h1 : ¬ nI (j + 1) < 1 := nI_nlt (b := 1) (by omega) (by omega)
        have hg : ¬ sn (nI m).toNatClampNeg < nI (j + 1) := Int32.not_lt.mpr hl
        have hix : nI m * 4 + nI (j + 1) - 1 = nI (m * 4 + j) := by rw [hp_4, pk_mul, nI_add, ← Nat.add_assoc, nI_pred]
        have hv : vp_in (nI m * 4 + nI (j + 1) - 1) 128 := by rw [hix]; exact vp_in_nI (by omega) (by decide)
        exact br_f h0 ⟨hi, br_t hl (br_f n0 ⟨hv, br_f m0 (br_t mM (br_f n0 (br_f h1 ⟨hi, br_f hg ⟨hv, rfl, hp_mk hJ0⟩⟩)))⟩)⟩
theorem i_vc_executeStep {k : Nat} {u : SX} {v : SY} (I : i_Rel k u v) (hk : k + 5 ≤ 2562) : wpX_executeStep (fun r u' => wpY_executeStep (fun r' v' => r' = r ∧ i_Rel (k + 5) u' v') v) u := by
  obtain ⟨D, B, M, ic, pl, d, ep, ini, st, e, xs, c, s, nm, os, o1, o2, o3, o4, mp, mn, tk, sn, sb, it, pn, dc, ct, cn, sc, ss, sp, cu, fS, fP, fT, fX, fN, fL, rfl, rfl, hJ⟩ := I
  have hJ0 := hJ
  obtain ⟨⟨hD, hB, hM, hic, hpl, hd, hep⟩, hos, hz, hsn, hsb, hit, hpn, hdc⟩ := hJ
  by_cases h1 : st = 1
  · by_cases hlt : ep < pl
    · have hi : vp_in (nI ep) 32 := vp_in_nI (by omega) (by decide)
      have he0 : (0 : Int32) ≤ nI ep := nI_pos' (by omega)
      obtain ⟨j, hj, ej⟩ := hpn ep
      have e1 : pn (nI ep).toNatClampNeg = nI j := by rw [nI_clamp (by omega)]; exact ej
      have hv : vp_in (nI j) 16 := vp_in_nI hj (by decide)
      obtain ⟨⟨v1, v2, v3, v4⟩, a1, a2, a3, a4⟩ := hy_os (t := nI j) rfl hj hos
      refine br_t h1 (br_t (nI_lt hlt (by omega)) ⟨hi, nm_r e1 ⟨hv, hv, ?_⟩⟩)
      by_cases hap : hp_ap xs (o1 (nI j).toNatClampNeg) (o2 (nI j).toNatClampNeg)
      · have hap' : hp_ap xs (os (nI j).toNatClampNeg) (os (16 + nI j).toNatClampNeg) := by rw [a1, a2]; exact hap
        have e5 : (xs &&& (os (48 + nI j).toNatClampNeg ^^^ (-1))) ||| os (32 + nI j).toNatClampNeg = (xs &&& (o4 (nI j).toNatClampNeg ^^^ (-1))) ||| o3 (nI j).toNatClampNeg := by rw [a3, a4]
        refine hx_ap_t hap (br_f hp_1n0 ⟨hv, hv, nm_r (nI_1 ep) ?_⟩)
        refine br_t h1 (br_f (nI_ge hlt (by omega)) (br_t he0 ⟨hi, nm_r e1 ⟨v1, v2, hy_ap_t hap' (br_f hp_1n0 ⟨v4, v3, nm_r e5 (nm_r (nI_1 ep) ⟨rfl, ?_⟩)⟩)⟩⟩))
        exact hp_mk ⟨⟨hD, hB, hM, hic, hpl, hd, by omega⟩, hos, hz, hsn, hsb, hit, hpn, hdc⟩
      · have hap' : ¬ hp_ap xs (os (nI j).toNatClampNeg) (os (16 + nI j).toNatClampNeg) := by rw [a1, a2]; exact hap
        exact hx_ap_f hap (br_t rfl (br_t h1 (br_f (nI_ge hlt (by omega)) (br_t he0 ⟨hi, nm_r e1 ⟨v1, v2, hy_ap_f hap' (br_t rfl ⟨rfl, hp_mk hJ0⟩)⟩⟩))))
    · exact br_t h1 (br_f (nI_nlt (by omega) (by omega)) (br_t h1 (br_t (nI_le (by omega) (by omega)) ⟨rfl, hp_mk hJ0⟩)))
  · exact br_f h1 (br_f h1 ⟨rfl, hp_mk hJ0⟩)
