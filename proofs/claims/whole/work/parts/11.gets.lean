theorem i_vc_clearInitialTasks {k : Nat} {u : SX} {v : SY} (I : i_Rel k u v) (hk : k + 5 ≤ 2562) : wpX_clearInitialTasks (fun u' => wpY_clearInitialTasks (fun v' => i_Rel (k + 5) u' v') v) u := by
  obtain ⟨D, B, M, ic, pl, d, ep, ini, st, e, xs, c, s, nm, os, o1, o2, o3, o4, mp, mn, tk, sn, sb, it, pn, dc, ct, cn, sc, ss, sp, cu, fS, fP, fT, fX, fN, fL, rfl, rfl, hJ⟩ := I
  have hJ0 := hJ
  obtain ⟨⟨hD, hB, hM, hic, hpl, hd, hep⟩, hos, hz, hsn, hsb, hit, hpn, hdc⟩ := hJ
  unfold wpX_clearInitialTasks wpY_clearInitialTasks
  refine hx_disc (hy_disc ?_)
  exact hp_mk (ic := 0) (pl := 0) (d := 0) (ep := 0) ⟨⟨hD, hB, hM, by decide, by decide, by decide, by decide⟩, hos, hz, hsn, hsb, hit, hpn, hdc⟩
theorem i_vc_getInitialTask {k : Nat} {u : SX} {v : SY} (I : i_Rel k u v) (hk : k + 5 ≤ 2562) (v1 : Int32) : wpX_getInitialTask (fun r => wpY_getInitialTask (fun r' => r' = r ∧ i_Rel (k + 5) u v) v v1) u v1 := by
  obtain ⟨D, B, M, ic, pl, d, ep, ini, st, e, xs, c, s, nm, os, o1, o2, o3, o4, mp, mn, tk, sn, sb, it, pn, dc, ct, cn, sc, ss, sp, cu, fS, fP, fT, fX, fN, fL, rfl, rfl, hJ⟩ := I
  have hJ0 := hJ
  obtain ⟨⟨hD, hB, hM, hic, hpl, hd, hep⟩, hos, hz, hsn, hsb, hit, hpn, hdc⟩ := hJ
  rcases pk_ix v1 (n := ic) (by omega) with h | h | ⟨j, hj, rfl⟩
  · exact br_t h (br_t h ⟨rfl, hp_mk hJ0⟩)
  · have h0 : ¬ v1 < 0 := Int32.not_lt.mpr (Int32.le_trans (nI_pos' (by omega)) h)
    exact br_f h0 (br_t h (br_f h0 (br_f (Int32.not_lt.mpr h) ⟨rfl, hp_mk hJ0⟩)))
  · have hi : vp_in (nI j) 8 := vp_in_nI (by omega) (by decide)
    exact br_f (nI_pos (by omega)) (br_f (nI_ge hj (by omega)) ⟨hi, br_f (nI_pos (by omega)) (br_t (nI_lt hj (by omega)) ⟨hi, rfl, hp_mk hJ0⟩)⟩)
theorem i_vc_getPlanStep {k : Nat} {u : SX} {v : SY} (I : i_Rel k u v) (hk : k + 5 ≤ 2562) (v1 : Int32) : wpX_getPlanStep (fun r => wpY_getPlanStep (fun r' => r' = r ∧ i_Rel (k + 5) u v) v v1) u v1 := by
  obtain ⟨D, B, M, ic, pl, d, ep, ini, st, e, xs, c, s, nm, os, o1, o2, o3, o4, mp, mn, tk, sn, sb, it, pn, dc, ct, cn, sc, ss, sp, cu, fS, fP, fT, fX, fN, fL, rfl, rfl, hJ⟩ := I
  have hJ0 := hJ
  obtain ⟨⟨hD, hB, hM, hic, hpl, hd, hep⟩, hos, hz, hsn, hsb, hit, hpn, hdc⟩ := hJ
  rcases pk_ix v1 (n := pl) (by omega) with h | h | ⟨j, hj, rfl⟩
  · exact br_t h (br_t h ⟨rfl, hp_mk hJ0⟩)
  · have h0 : ¬ v1 < 0 := Int32.not_lt.mpr (Int32.le_trans (nI_pos' (by omega)) h)
    exact br_f h0 (br_t h (br_f h0 (br_f (Int32.not_lt.mpr h) ⟨rfl, hp_mk hJ0⟩)))
  · have hi : vp_in (nI j) 32 := vp_in_nI (by omega) (by decide)
    exact br_f (nI_pos (by omega)) (br_f (nI_ge hj (by omega)) ⟨hi, br_f (nI_pos (by omega)) (br_t (nI_lt hj (by omega)) ⟨hi, rfl, hp_mk hJ0⟩)⟩)
theorem i_vc_getDecompMethod {k : Nat} {u : SX} {v : SY} (I : i_Rel k u v) (hk : k + 5 ≤ 2562) (v1 : Int32) : wpX_getDecompMethod (fun r => wpY_getDecompMethod (fun r' => r' = r ∧ i_Rel (k + 5) u v) v v1) u v1 := by
  obtain ⟨D, B, M, ic, pl, d, ep, ini, st, e, xs, c, s, nm, os, o1, o2, o3, o4, mp, mn, tk, sn, sb, it, pn, dc, ct, cn, sc, ss, sp, cu, fS, fP, fT, fX, fN, fL, rfl, rfl, hJ⟩ := I
  have hJ0 := hJ
  obtain ⟨⟨hD, hB, hM, hic, hpl, hd, hep⟩, hos, hz, hsn, hsb, hit, hpn, hdc⟩ := hJ
  rcases pk_ix v1 (n := d) (by omega) with h | h | ⟨j, hj, rfl⟩
  · exact br_t h (br_t h ⟨rfl, hp_mk hJ0⟩)
  · have h0 : ¬ v1 < 0 := Int32.not_lt.mpr (Int32.le_trans (nI_pos' (by omega)) h)
    exact br_f h0 (br_t h (br_f h0 (br_f (Int32.not_lt.mpr h) ⟨rfl, hp_mk hJ0⟩)))
  · have hi : vp_in (nI j) 16 := vp_in_nI (by omega) (by decide)
    exact br_f (nI_pos (by omega)) (br_f (nI_ge hj (by omega)) ⟨hi, br_f (nI_pos (by omega)) (br_t (nI_lt hj (by omega)) ⟨hi, rfl, hp_mk hJ0⟩)⟩)
theorem i_vc_resetExecutor {k : Nat} {u : SX} {v : SY} (I : i_Rel k u v) (hk : k + 5 ≤ 2562) : wpX_resetExecutor (fun u' => wpY_resetExecutor (fun v' => i_Rel (k + 5) u' v') v) u := by
  obtain ⟨D, B, M, ic, pl, d, ep, ini, st, e, xs, c, s, nm, os, o1, o2, o3, o4, mp, mn, tk, sn, sb, it, pn, dc, ct, cn, sc, ss, sp, cu, fS, fP, fT, fX, fN, fL, rfl, rfl, hJ⟩ := I
  have hJ0 := hJ
  obtain ⟨⟨hD, hB, hM, hic, hpl, hd, hep⟩, hos, hz, hsn, hsb, hit, hpn, hdc⟩ := hJ
  exact hp_mk (k := k + 5) (ep := 0) ⟨⟨hD, hB, hM, hic, hpl, hd, by decide⟩, hos, hz, hsn, hsb, hit, hpn, hdc⟩
theorem i_vc_getExecState {k : Nat} {u : SX} {v : SY} (I : i_Rel k u v) (hk : k + 5 ≤ 2562) : wpX_getExecState (fun r => wpY_getExecState (fun r' => r' = r ∧ i_Rel (k + 5) u v) v) u := by
  obtain ⟨D, B, M, ic, pl, d, ep, ini, st, e, xs, c, s, nm, os, o1, o2, o3, o4, mp, mn, tk, sn, sb, it, pn, dc, ct, cn, sc, ss, sp, cu, fS, fP, fT, fX, fN, fL, rfl, rfl, hJ⟩ := I
  have hJ0 := hJ
  obtain ⟨⟨hD, hB, hM, hic, hpl, hd, hep⟩, hos, hz, hsn, hsb, hit, hpn, hdc⟩ := hJ
  exact ⟨rfl, hp_mk hJ0⟩
theorem hv_neg {v : Int32} (h : v < 0) (a : Nat) (ha : a < 2 ^ 31) : ¬ v = nI a := by
  intro z
  rw [z] at h
  exact nI_pos ha h
theorem hv_big {v : Int32} {b : Nat} (hb : b < 2 ^ 31) (h : nI b ≤ v) (a : Nat) (ha : a < b) : ¬ v = nI a := by
  intro z
  rw [z] at h
  exact nI_ge ha hb h
theorem hv_get {k : Nat} {u : SX} {v : SY} {r r' : Int32} (I : i_Rel k u v) (h : r' = r) : r' = r ∧ i_Rel (k + 5) u v := ⟨h, I⟩
theorem i_vc_getInfo {k : Nat} {u : SX} {v : SY} (I : i_Rel k u v) (hk : k + 5 ≤ 2562) (v1 : Int32) : wpX_getInfo (fun r => wpY_getInfo (fun r' => r' = r ∧ i_Rel (k + 5) u v) v v1) u v1 := by
  obtain ⟨D, B, M, ic, pl, d, ep, ini, st, e, xs, c, s, nm, os, o1, o2, o3, o4, mp, mn, tk, sn, sb, it, pn, dc, ct, cn, sc, ss, sp, cu, fS, fP, fT, fX, fN, fL, rfl, rfl, hJ⟩ := I
  have hJ0 := hJ
  obtain ⟨⟨hD, hB, hM, hic, hpl, hd, hep⟩, hos, hz, hsn, hsb, hit, hpn, hdc⟩ := hJ
  rcases pk_ix v1 (n := 9) (by omega) with h | h | ⟨j, hj, rfl⟩
  · exact br_t h (br_f (hv_neg h 0 (by decide)) (br_f (hv_neg h 1 (by decide)) (br_f (hv_neg h 2 (by decide)) (br_f (hv_neg h 3 (by decide)) (br_f (hv_neg h 4 (by decide)) (br_f (hv_neg h 5 (by decide)) (br_f (hv_neg h 6 (by decide)) (br_f (hv_neg h 7 (by decide)) (br_f (hv_neg h 8 (by decide)) ⟨rfl, hp_mk hJ0⟩)))))))))
  · have h0 : ¬ v1 < 0 := Int32.not_lt.mpr (Int32.le_trans (nI_pos' (by decide)) h)
    have h8 : (8 : Int32) < v1 := Int32.lt_of_lt_of_le (by decide : (8 : Int32) < nI 9) h
    exact br_f h0 (br_t h8 (br_f (hv_big (by decide) h 0 (by decide)) (br_f (hv_big (by decide) h 1 (by decide)) (br_f (hv_big (by decide) h 2 (by decide)) (br_f (hv_big (by decide) h 3 (by decide)) (br_f (hv_big (by decide) h 4 (by decide)) (br_f (hv_big (by decide) h 5 (by decide)) (br_f (hv_big (by decide) h 6 (by decide)) (br_f (hv_big (by decide) h 7 (by decide)) (br_f (hv_big (by decide) h 8 (by decide)) ⟨rfl, hp_mk hJ0⟩))))))))))
  · have hn : ¬ nI j < 0 := nI_pos (by omega)
    have h8 : ¬ (8 : Int32) < nI j := nI_nlt (a := 8) (by omega) (by decide)
    have hc : j = 0 ∨ j = 1 ∨ j = 2 ∨ j = 3 ∨ j = 4 ∨ j = 5 ∨ j = 6 ∨ j = 7 ∨ j = 8 := by omega
    rcases hc with rfl | rfl | rfl | rfl | rfl | rfl | rfl | rfl | rfl
    · exact br_f hn (br_f h8 (br_t (by decide) (br_t (by decide) ⟨rfl, hp_mk hJ0⟩)))
    · exact br_f hn (br_f h8 (br_f (by decide) (br_t (by decide) (br_f (by decide) (br_t (by decide) ⟨rfl, hp_mk hJ0⟩)))))
    · exact br_f hn (br_f h8 (br_f (by decide) (br_f (by decide) (br_t (by decide) (br_f (by decide) (br_f (by decide) (br_t (by decide) ⟨rfl, hp_mk hJ0⟩)))))))
    · exact br_f hn (br_f h8 (br_f (by decide) (br_f (by decide) (br_f (by decide) (br_t (by decide) (br_f (by decide) (br_f (by decide) (br_f (by decide) (br_t (by decide) ⟨rfl, hp_mk hJ0⟩)))))))))
    · exact br_f hn (br_f h8 (br_f (by decide) (br_f (by decide) (br_f (by decide) (br_f (by decide) (br_t (by decide) (br_f (by decide) (br_f (by decide) (br_f (by decide) (br_f (by decide) (br_t (by decide) ⟨rfl, hp_mk hJ0⟩)))))))))))
    · exact br_f hn (br_f h8 (br_f (by decide) (br_f (by decide) (br_f (by decide) (br_f (by decide) (br_f (by decide) (br_t (by decide) (br_f (by decide) (br_f (by decide) (br_f (by decide) (br_f (by decide) (br_f (by decide) (br_t (by decide) ⟨rfl, hp_mk hJ0⟩)))))))))))))
    · exact br_f hn (br_f h8 (br_f (by decide) (br_f (by decide) (br_f (by decide) (br_f (by decide) (br_f (by decide) (br_f (by decide) (br_t (by decide) (br_f (by decide) (br_f (by decide) (br_f (by decide) (br_f (by decide) (br_f (by decide) (br_f (by decide) (br_t (by decide) ⟨rfl, hp_mk hJ0⟩)))))))))))))))
    · exact br_f hn (br_f h8 (br_f (by decide) (br_f (by decide) (br_f (by decide) (br_f (by decide) (br_f (by decide) (br_f (by decide) (br_f (by decide) (br_t (by decide) (br_f (by decide) (br_f (by decide) (br_f (by decide) (br_f (by decide) (br_f (by decide) (br_f (by decide) (br_f (by decide) (br_t (by decide) ⟨rfl, hp_mk hJ0⟩)))))))))))))))))
    · exact br_f hn (br_f h8 (br_f (by decide) (br_f (by decide) (br_f (by decide) (br_f (by decide) (br_f (by decide) (br_f (by decide) (br_f (by decide) (br_f (by decide) (br_t (by decide) (br_f (by decide) (br_f (by decide) (br_f (by decide) (br_f (by decide) (br_f (by decide) (br_f (by decide) (br_f (by decide) (br_f (by decide) (br_t (by decide) ⟨rfl, hp_mk hJ0⟩)))))))))))))))))))
