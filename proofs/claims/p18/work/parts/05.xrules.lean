section
variable {D B M ic : Nat} {ini : Int64} {st : Int32} {e pl d : Nat} {xs : Int64} {xp c : Int32} {s : Int64} {nm : Nat} {o1 o2 o3 o4 mp mn : Nat → Int64} {tk sn sb it pn dc ct cn sc : Nat → Int32} {ss : Nat → Int64} {sp : Nat → Int32}
theorem hx_appl {post : St2 → Prop} {m own : Nat} (hm : m < 32) (ho : own + 4 ≤ 72) : ∀ (k : Nat) (c : Int32) (ct cn : Nat → Int32) (L : List Int32), k ≤ 4 → hp_ch (fun j => j < own ∨ (own + k ≤ j ∧ j < own + 4)) ct cn c L → (∀ (c' : Int32) (ct' cn' : Nat → Int32), hp_ch (fun j => j < own + 4) ct' cn' c' (hp_sl (fun i => sb (m * 4 + i)) 0 k ++ L) → (∀ j, j < own → ct' j = ct j ∧ cn' j = cn j) → post (nI D, nI B, nI M, nI ic, ini, st, nI e, nI pl, nI d, xs, xp, c', s, nI nm, o1, o2, o3, o4, mp, mn, tk, sn, sb, it, pn, dc, ct', cn', sc, ss, sp)) → wX_applyMethod_84 post (nI m) (nI own) (k + 1) (hp_dn k) (nI D) (nI B) (nI M) (nI ic) ini st (nI e) (nI pl) (nI d) xs xp c s (nI nm) o1 o2 o3 o4 mp mn tk sn sb it pn dc ct cn sc ss sp := by
  intro k
  induction k with
  | zero =>
    intro c ct cn L _ hch hp
    refine br_t (show (-1 : Int32) < 0 by decide) (hp c ct cn (hp_ch_w (fun j hj => ⟨?_, rfl, rfl⟩) L c hch) (fun j _ => ⟨rfl, rfl⟩))
    have h : j < own ∨ (own + 0 ≤ j ∧ j < own + 4) := hj
    show j < own + 4
    omega
  | succ k ih =>
    intro c ct cn L hk hch hp
    have hix : nI m * 4 + nI k = nI (m * 4 + k) := by rw [hp_4, pk_mul, nI_add]
    have ht : sb (nI m * 4 + nI k).toNatClampNeg = sb (m * 4 + k) := by rw [hix, nI_clamp (by omega)]
    refine br_f (nI_pos (by omega)) ⟨?_, ?_⟩
    · show vp_in (nI m * 4 + nI k) 128
      rw [hix]
      exact vp_in_nI (by omega) (by decide)
    · refine hx_put (nI_add own k) ht (by omega) (nm_r (hp_dn_a k) ?_)
      refine ih (nI (own + k)) (upd ct (own + k) (sb (m * 4 + k))) (upd cn (own + k) c) (sb (m * 4 + k) :: L) (by omega) ?_ ?_
      · refine hp_ch_put hch ?_ ?_ ?_ (by omega)
        · show ¬ (own + k < own ∨ (own + (k + 1) ≤ own + k ∧ own + k < own + 4))
          omega
        · intro j hj
          have h : j < own ∨ (own + (k + 1) ≤ j ∧ j < own + 4) := hj
          show j < own ∨ (own + k ≤ j ∧ j < own + 4)
          omega
        · show own + k < own ∨ (own + k ≤ own + k ∧ own + k < own + 4)
          omega
      · intro c' ct' cn' h1 h2
        refine hp c' ct' cn' ?_ ?_
        · rw [hp_sl_snoc, List.append_assoc, Nat.zero_add]
          exact h1
        · intro j hj
          obtain ⟨a, b⟩ := h2 j hj
          have hne : j ≠ own + k := by omega
          exact ⟨a.trans (pk_un hne), b.trans (pk_un hne)⟩
theorem hx_apply {post : St2 → Prop} {m q cnt : Nat} {L : List Int32} (hm : m < 32) (hd : d < 16) (hq : q < 72) (hsn : sn m = nI cnt) (hcnt : cnt ≤ 4) (hch : hp_ch (fun j => j < 8 + 4 * d) ct cn (cn q) L) (hp : ∀ (c' : Int32) (ct' cn' : Nat → Int32), hp_ch (fun j => j < 8 + 4 * (d + 1)) ct' cn' c' (hp_sl (fun i => sb (m * 4 + i)) 0 cnt ++ L) → (∀ j, j < 8 + 4 * d → ct' j = ct j ∧ cn' j = cn j) → post (nI D, nI B, nI M, nI ic, ini, st, nI e, nI pl, nI (d + 1), xs, xp, c', s, nI 0, o1, o2, o3, o4, mp, mn, tk, sn, sb, it, pn, upd dc d (nI m), ct', cn', upd sc d (nI q), vp_updL ss d s, upd sp d (nI pl))) : wpX_applyMethod post (nI D, nI B, nI M, nI ic, ini, st, nI e, nI pl, nI d, xs, xp, nI q, s, nI nm, o1, o2, o3, o4, mp, mn, tk, sn, sb, it, pn, dc, ct, cn, sc, ss, sp) (nI m) := by
  have hcd : (nI d).toNatClampNeg = d := nI_clamp (by omega)
  have hcm : (nI m).toNatClampNeg = m := nI_clamp (by omega)
  have hcq : (nI q).toNatClampNeg = q := nI_clamp (by omega)
  have hi : vp_in (nI d) 16 := vp_in_nI hd (by decide)
  have e1 : upd sc (nI d).toNatClampNeg (nI q) = upd sc d (nI q) := by rw [hcd]
  have e2 : vp_updL ss (nI d).toNatClampNeg s = vp_updL ss d s := by rw [hcd]
  have e3 : upd sp (nI d).toNatClampNeg (nI pl) = upd sp d (nI pl) := by rw [hcd]
  have e4 : upd dc (nI d).toNatClampNeg (nI m) = upd dc d (nI m) := by rw [hcd]
  have e5 : (8 : Int32) + nI d * 4 = nI (8 + 4 * d) := by rw [hp_4, hp_8, pk_mul, nI_add, Nat.mul_comm d 4]
  have e6 : cn (nI q).toNatClampNeg = cn q := by rw [hcq]
  have e7 : sn (nI m).toNatClampNeg - 1 = hp_dn cnt := by rw [hcm, hsn, hp_dn_s]
  refine ⟨hi, nm_r e1 ⟨hi, nm_r e2 ⟨hi, nm_r e3 ⟨hi, nm_r e4 (nm_r (nI_1 d) (nm_r e5 ⟨vp_in_nI hq (by decide), nm_r e6 ⟨vp_in_nI hm (by decide), nm_r e7 ⟨cnt + 1, ?_⟩⟩⟩))⟩⟩⟩⟩
  refine hx_appl hm (by omega) cnt (cn q) ct cn L hcnt (hp_ch_w (fun j hj => ⟨Or.inl hj, rfl, rfl⟩) L _ hch) (fun c' ct' cn' h1 h2 => hp c' ct' cn' ?_ h2)
  rw [show 8 + 4 * (d + 1) = 8 + 4 * d + 4 by omega]
  exact h1
theorem hx_sl {post : St2 → Prop} : ∀ (k : Nat) (c : Int32) (ct cn : Nat → Int32) (L : List Int32), k ≤ 8 → hp_ch (fun j => k ≤ j ∧ j < 8) ct cn c L → (∀ (c' : Int32) (ct' cn' : Nat → Int32), hp_ch (fun j => j < 8) ct' cn' c' (hp_sl it 0 k ++ L) → post (nI D, nI B, nI M, nI ic, ini, st, nI e, nI pl, nI d, xs, xp, c', s, nI nm, o1, o2, o3, o4, mp, mn, tk, sn, sb, it, pn, dc, ct', cn', sc, ss, sp)) → wX_startSearch_25 post (k + 1) (hp_dn k) (nI D) (nI B) (nI M) (nI ic) ini st (nI e) (nI pl) (nI d) xs xp c s (nI nm) o1 o2 o3 o4 mp mn tk sn sb it pn dc ct cn sc ss sp := by
  intro k
  induction k with
  | zero =>
    intro c ct cn L _ hch hp
    refine br_t (show (-1 : Int32) < 0 by decide) (hp c ct cn (hp_ch_w (fun j hj => ⟨?_, rfl, rfl⟩) L c hch))
    have h : 0 ≤ j ∧ j < 8 := hj
    exact h.2
  | succ k ih =>
    intro c ct cn L hk hch hp
    have ht : it (nI k).toNatClampNeg = it k := by rw [nI_clamp (by omega)]
    refine br_f (nI_pos (by omega)) ⟨vp_in_nI (by omega) (by decide), ?_⟩
    refine hx_put rfl ht (by omega) (nm_r (hp_dn_a k) ?_)
    refine ih (nI k) (upd ct k (it k)) (upd cn k c) (it k :: L) (by omega) ?_ ?_
    · refine hp_ch_put hch ?_ ?_ ?_ (by omega)
      · show ¬ (k + 1 ≤ k ∧ k < 8)
        omega
      · intro j hj
        have h : k + 1 ≤ j ∧ j < 8 := hj
        show k ≤ j ∧ j < 8
        omega
      · show k ≤ k ∧ k < 8
        omega
    · intro c' ct' cn' h1
      refine hp c' ct' cn' ?_
      rw [hp_sl_snoc, List.append_assoc, Nat.zero_add]
      exact h1
theorem hx_start {post : St2 → Prop} {gn : Int32} (hic : ic ≤ 8) (hp : ∀ (c' : Int32) (ct' cn' : Nat → Int32), hp_ch (fun j => j < 8) ct' cn' c' (hp_sl it 0 ic) → post (nI D, nI B, nI M, nI ic, ini, st, nI e, nI pl, nI d, xs, xp, c', ini, nI 0, o1, o2, o3, o4, mp, mn, tk, sn, sb, it, pn, dc, ct', cn', sc, ss, sp)) : wpX_startSearch post (nI D, nI B, nI M, nI ic, ini, st, nI e, nI pl, nI d, xs, xp, c, s, gn, o1, o2, o3, o4, mp, mn, tk, sn, sb, it, pn, dc, ct, cn, sc, ss, sp) := by
  refine nm_r (hp_dn_s ic) ⟨ic + 1, hx_sl ic (-1) ct cn [] hic rfl (fun c' ct' cn' h => hp c' ct' cn' ?_)⟩
  rw [List.append_nil] at h
  exact h
theorem hx_nm_f0 {post : Int32 → St2 → Prop} {t : Int32} (hM : M ≤ 32) (hnm : nm ≤ 32) (hf : ∀ j, nm ≤ j → j < M → tk j ≠ t) (hp : post 2 (nI D, nI B, nI M, nI ic, ini, st, nI e, nI pl, nI 0, xs, xp, c, s, nI nm, o1, o2, o3, o4, mp, mn, tk, sn, sb, it, pn, dc, ct, cn, sc, ss, sp)) : wpX_tryNextMethod post (nI D, nI B, nI M, nI ic, ini, st, nI e, nI pl, nI 0, xs, xp, c, s, nI nm, o1, o2, o3, o4, mp, mn, tk, sn, sb, it, pn, dc, ct, cn, sc, ss, sp) t := by
  unfold wpX_tryNextMethod
  exact hx_fF hM hnm hf (br_t rfl (hx_back0 hp))
theorem hx_nm_f1 {post : Int32 → St2 → Prop} {t c' p' n' : Int32} {s' : Int64} (hM : M ≤ 32) (hnm : nm ≤ 32) (hf : ∀ j, nm ≤ j → j < M → tk j ≠ t) (hd : d < 16) (h1 : sc d = c') (h2 : ss d = s') (h3 : sp d = p') (h4 : dc d + 1 = n') (hp : post 0 (nI D, nI B, nI M, nI ic, ini, st, nI e, p', nI d, xs, xp, c', s', n', o1, o2, o3, o4, mp, mn, tk, sn, sb, it, pn, dc, ct, cn, sc, ss, sp)) : wpX_tryNextMethod post (nI D, nI B, nI M, nI ic, ini, st, nI e, nI pl, nI (d + 1), xs, xp, c, s, nI nm, o1, o2, o3, o4, mp, mn, tk, sn, sb, it, pn, dc, ct, cn, sc, ss, sp) t := by
  unfold wpX_tryNextMethod
  exact hx_fF hM hnm hf (br_t rfl (hx_back1 hd h1 h2 h3 h4 hp))
theorem hx_nm_bud {post : Int32 → St2 → Prop} {t : Int32} {m : Nat} (hM : M ≤ 32) (hm : m < M) (hf : hp_fs tk t nm m) (h : e = B) (hB : B ≤ 1024) (hp : post 3 (nI D, nI B, nI M, nI ic, ini, st, nI e, nI pl, nI d, xs, xp, c, s, nI nm, o1, o2, o3, o4, mp, mn, tk, sn, sb, it, pn, dc, ct, cn, sc, ss, sp)) : wpX_tryNextMethod post (nI D, nI B, nI M, nI ic, ini, st, nI e, nI pl, nI d, xs, xp, c, s, nI nm, o1, o2, o3, o4, mp, mn, tk, sn, sb, it, pn, dc, ct, cn, sc, ss, sp) t := by
  unfold wpX_tryNextMethod
  exact hx_fT hM hm hf (br_f (hp_nm1 (by omega)) (hx_cnt_f h hB (br_t rfl hp)))
theorem hx_nm_skip {post : Int32 → St2 → Prop} {t : Int32} {m : Nat} (hM : M ≤ 32) (hm : m < M) (hf : hp_fs tk t nm m) (he : e < B) (hB : B ≤ 1024) (hD : D ≤ 16) (hd : d ≤ 16) (hn : ¬ (d < D ∧ hp_ap s (mp m) (mn m))) (hp : post 0 (nI D, nI B, nI M, nI ic, ini, st, nI (e + 1), nI pl, nI d, xs, xp, c, s, nI (m + 1), o1, o2, o3, o4, mp, mn, tk, sn, sb, it, pn, dc, ct, cn, sc, ss, sp)) : wpX_tryNextMethod post (nI D, nI B, nI M, nI ic, ini, st, nI e, nI pl, nI d, xs, xp, c, s, nI nm, o1, o2, o3, o4, mp, mn, tk, sn, sb, it, pn, dc, ct, cn, sc, ss, sp) t := by
  unfold wpX_tryNextMethod
  have hi : vp_in (nI m) 32 := vp_in_nI (by omega) (by decide)
  by_cases hdD : d < D
  · exact hx_fT hM hm hf (br_f (hp_nm1 (by omega)) (hx_cnt_t he hB (br_f (by decide) (br_f (nI_ge hdD (by omega)) ⟨hi, hi, hx_ap_f (by rw [nI_clamp (by omega)]; exact fun z => hn ⟨hdD, z⟩) (br_t rfl (nm_r (nI_1 m) hp))⟩))))
  · exact hx_fT hM hm hf (br_f (hp_nm1 (by omega)) (hx_cnt_t he hB (br_f (by decide) (br_t (nI_le (by omega) (by omega)) (nm_r (nI_1 m) hp)))))
theorem hx_nm_app {post : Int32 → St2 → Prop} {t : Int32} {m q cnt : Nat} {L : List Int32} (hM : M ≤ 32) (hm : m < M) (hf : hp_fs tk t nm m) (he : e < B) (hB : B ≤ 1024) (hD : D ≤ 16) (hdD : d < D) (ha : hp_ap s (mp m) (mn m)) (hq : q < 72) (hsn : sn m = nI cnt) (hcnt : cnt ≤ 4) (hch : hp_ch (fun j => j < 8 + 4 * d) ct cn (cn q) L) (hp : ∀ (c' : Int32) (ct' cn' : Nat → Int32), hp_ch (fun j => j < 8 + 4 * (d + 1)) ct' cn' c' (hp_sl (fun i => sb (m * 4 + i)) 0 cnt ++ L) → (∀ j, j < 8 + 4 * d → ct' j = ct j ∧ cn' j = cn j) → post 0 (nI D, nI B, nI M, nI ic, ini, st, nI (e + 1), nI pl, nI (d + 1), xs, xp, c', s, nI 0, o1, o2, o3, o4, mp, mn, tk, sn, sb, it, pn, upd dc d (nI m), ct', cn', upd sc d (nI q), vp_updL ss d s, upd sp d (nI pl))) : wpX_tryNextMethod post (nI D, nI B, nI M, nI ic, ini, st, nI e, nI pl, nI d, xs, xp, nI q, s, nI nm, o1, o2, o3, o4, mp, mn, tk, sn, sb, it, pn, dc, ct, cn, sc, ss, sp) t := by
  unfold wpX_tryNextMethod
  have hi : vp_in (nI m) 32 := vp_in_nI (by omega) (by decide)
  have hc : (nI m).toNatClampNeg = m := nI_clamp (by omega)
  refine hx_fT hM hm hf (br_f (hp_nm1 (by omega)) (hx_cnt_t he hB (br_f (by decide) (br_f (nI_ge hdD (by omega)) ⟨hi, hi, hx_ap_t (by rw [hc]; exact ha) (br_f (by decide) ?_)⟩))))
  exact hx_apply (by omega) (by omega) hq hsn hcnt hch hp
theorem hx_end {post : Int32 → St2 → Prop} {r y : Int32} {n : Nat} (hr : ¬ r = 0) (hp : post r (nI D, nI B, nI M, nI ic, ini, st, nI e, nI pl, nI d, xs, xp, c, s, nI nm, o1, o2, o3, o4, mp, mn, tk, sn, sb, it, pn, dc, ct, cn, sc, ss, sp)) : wX_search_4 post (n + 1) r y (nI D) (nI B) (nI M) (nI ic) ini st (nI e) (nI pl) (nI d) xs xp c s (nI nm) o1 o2 o3 o4 mp mn tk sn sb it pn dc ct cn sc ss sp := br_c (fun _ => hp) (fun _ => br_f hr hp)
end
def hq_mo (FP : Nat → Nat) (d pl : Nat) : Prop := (∀ j, j < d → FP j ≤ pl) ∧ ∀ i j, i < j → j < d → FP i ≤ FP j
theorem hq_mo_op {FP : Nat → Nat} {d pl : Nat} (h : hq_mo FP d pl) : hq_mo FP d (pl + 1) := ⟨fun j hj => Nat.le_succ_of_le (h.1 j hj), h.2⟩
theorem hq_mo_bk {FP : Nat → Nat} {d pl : Nat} (h : hq_mo FP (d + 1) pl) : hq_mo FP d (FP d) := ⟨fun j hj => h.2 j d hj (Nat.lt_succ_self d), fun i j a b => h.2 i j a (by omega)⟩
theorem hq_mo_app {FP : Nat → Nat} {d pl : Nat} (h : hq_mo FP d pl) : hq_mo (hp_up FP d pl) (d + 1) pl := by
  refine ⟨fun j hj => ?_, fun i j a b => ?_⟩
  · by_cases e : j = d
    · rw [e, hp_us]; exact Nat.le_refl pl
    · rw [hp_un e]; exact h.1 j (by omega)
  · by_cases e : j = d
    · rw [e, hp_us, hp_un (by omega)]; exact h.1 i (by omega)
    · rw [hp_un e, hp_un (by omega)]; exact h.2 i j a (by omega)
theorem hq_ag_u {f g : Nat → Int32} {n : Nat} {x : Int32} (h : ∀ i, i < n → f i = g i) : ∀ i, i < n + 1 → upd f n x i = upd g n x i := by
  intro i hi
  by_cases e : i = n
  · rw [e, pk_us, pk_us]
  · rw [pk_un e, pk_un e]; exact h i (by omega)
def hp_XG (D B M ic : Nat) (ini : Int64) (st : Int32) (xs : Int64) (xp : Int32) (o1 o2 o3 o4 mp mn : Nat → Int64) (tk sn sb it : Nat → Int32) : hp_G := fun R k L s pl nm e d FL FS FP pn dc =>
  ∀ (pnx dcx : Nat → Int32), hp_nb 16 pnx → hp_nb 32 dcx → (∀ i, i < pl → pnx i = pn i) → (∀ i, i < d → dcx i = dc i) → hq_mo FP d pl → ∀ (c : Int32) (ct cn sc : Nat → Int32) (ss : Nat → Int64) (sp : Nat → Int32), hp_ch (fun j => j < 8 + 4 * d) ct cn c L → (∀ i, i < d → hp_X1 ct cn sc ss sp i (FL i) (FS i) (FP i)) → ∀ (n x : Nat) (post : Int32 → St2 → Prop), k < n → x + k < 1000000 → (∀ (c : Int32) (s : Int64) (nm : Int32) (ct cn sc : Nat → Int32) (ss : Nat → Int64) (sp pnx dcx : Nat → Int32), hp_nb 16 pnx → hp_nb 32 dcx → (∀ i, i < R.2.1 → pnx i = R.2.2.2.2.1 i) → (∀ i, i < R.2.2.1 → dcx i = R.2.2.2.2.2 i) → post R.1 (nI D, nI B, nI M, nI ic, ini, st, nI R.2.2.2.1, nI R.2.1, nI R.2.2.1, xs, xp, c, s, nm, o1, o2, o3, o4, mp, mn, tk, sn, sb, it, pnx, dcx, ct, cn, sc, ss, sp)) → wX_search_4 post n 0 (nI x) (nI D) (nI B) (nI M) (nI ic) ini st (nI e) (nI pl) (nI d) xs xp c s (nI nm) o1 o2 o3 o4 mp mn tk sn sb it pnx dcx ct cn sc ss sp
section
variable {D B M ic : Nat} {ini : Int64} {st : Int32} {xs : Int64} {xp : Int32} {o1 o2 o3 o4 mp mn : Nat → Int64} {tk sn sb it : Nat → Int32}
theorem hx_R1 : hp_R1 B D (hp_XG D B M ic ini st xs xp o1 o2 o3 o4 mp mn tk sn sb it) := by
  intro k s pl nm e d FL FS FP pn dc hW pnx dcx np nd ap ad mo c ct cn sc ss sp hch hf n x post hn hx hp
  obtain ⟨n, rfl⟩ : ∃ n', n = n' + 2 := ⟨n - 2, by omega⟩
  exact br_f (nI_ge (b := 1000000) (by omega) (by decide)) (br_t rfl (br_t hch (nm_r (nI_1 x) (hx_end (by decide) (hp c s (nI nm) ct cn sc ss sp pnx dcx np nd ap ad)))))
theorem hx_R2 (hB : B ≤ 1024) : hp_R2 B D (hp_XG D B M ic ini st xs xp o1 o2 o3 o4 mp mn tk sn sb it) := by
  intro k t L s pl nm e d FL FS FP pn dc hW h16 hb pnx dcx np nd ap ad mo c ct cn sc ss sp hch hf n x post hn hx hp
  obtain ⟨q, hq8, hq, hc, hct, hr⟩ := hch
  subst hc
  obtain ⟨n, rfl⟩ : ∃ n', n = n' + 2 := ⟨n - 2, by omega⟩
  have hT : ct (nI q).toNatClampNeg = t := by rw [nI_clamp (by omega)]; exact hct
  have hi : vp_in (nI q) 72 := vp_in_nI hq (by decide)
  refine br_f (nI_ge (b := 1000000) (by omega) (by decide)) (br_t rfl (br_f (hp_nm1 (by omega)) ⟨hi, ?_⟩))
  rw [hT]
  exact hx_prim_t h16 (br_f (by decide) ⟨hi, hx_op_bud hb hB (nm_r (nI_1 x) (hx_end (by decide) (hp (nI q) s (nI nm) ct cn sc ss sp pnx dcx np nd ap ad)))⟩)
theorem hx_R3 (hB : B ≤ 1024) : hp_R3 B D (fun s j => hp_ap s (o1 j) (o2 j)) (fun s j => (s &&& (o4 j ^^^ (-1))) ||| o3 j) (hp_XG D B M ic ini st xs xp o1 o2 o3 o4 mp mn tk sn sb it) := by
  intro R k t L s pl nm e d FL FS FP pn dc hW h16 he hpl hok hG pnx dcx np nd ap ad mo c ct cn sc ss sp hch hf n x post hn hx hp
  obtain ⟨q, hq8, hq, hc, hct, hr⟩ := hch
  subst hc
  obtain ⟨n, rfl⟩ : ∃ n', n = n' + 1 := ⟨n - 1, by omega⟩
  obtain ⟨j, hj, ht⟩ := hp_vt_lt (hW.1.1 t List.mem_cons_self) h16
  have hT : ct (nI q).toNatClampNeg = t := by rw [nI_clamp (by omega)]; exact hct
  have hi : vp_in (nI q) 72 := vp_in_nI hq (by decide)
  refine br_f (nI_ge (b := 1000000) (by omega) (by decide)) (br_t rfl (br_f (hp_nm1 (by omega)) ⟨hi, ?_⟩))
  rw [hT]
  exact hx_prim_t h16 (br_f (by decide) ⟨hi, hx_op_ok ht hj hB he hpl hok hq (nm_r (nI_1 x) (hG _ dcx (hp_nb_u np pl ⟨j, hj, ht⟩) nd (hq_ag_u ap) ad (hq_mo_op mo) _ ct cn sc ss sp hr hf n (x + 1) post (by omega) (by omega) hp))⟩)
theorem hx_R4 (hB : B ≤ 1024) : hp_R4 B D (fun s j => hp_ap s (o1 j) (o2 j)) (hp_XG D B M ic ini st xs xp o1 o2 o3 o4 mp mn tk sn sb it) := by
  intro k t L s pl nm e FL FS FP pn dc hW h16 he hok pnx dcx np nd ap ad mo c ct cn sc ss sp hch hf n x post hn hx hp
  obtain ⟨q, hq8, hq, hc, hct, hr⟩ := hch
  subst hc
  obtain ⟨n, rfl⟩ : ∃ n', n = n' + 2 := ⟨n - 2, by omega⟩
  obtain ⟨j, hj, ht⟩ := hp_vt_lt (hW.1.1 t List.mem_cons_self) h16
  have hT : ct (nI q).toNatClampNeg = t := by rw [nI_clamp (by omega)]; exact hct
  have hi : vp_in (nI q) 72 := vp_in_nI hq (by decide)
  refine br_f (nI_ge (b := 1000000) (by omega) (by decide)) (br_t rfl (br_f (hp_nm1 (by omega)) ⟨hi, ?_⟩))
  rw [hT]
  exact hx_prim_t h16 (br_f (by decide) ⟨hi, hx_op_bk ht hj hB he hW.2.1.1 hok (hx_back0 (nm_r (nI_1 x) (hx_end (by decide) (hp (nI q) s (nI nm) ct cn sc ss sp pnx dcx np nd ap ad))))⟩)
theorem hx_R5 (hB : B ≤ 1024) (hD : D ≤ 16) : hp_R5 B D (fun s j => hp_ap s (o1 j) (o2 j)) (hp_XG D B M ic ini st xs xp o1 o2 o3 o4 mp mn tk sn sb it) := by
  intro R k t L s pl nm e d FL FS FP pn dc hW h16 he hok hG pnx dcx np nd ap ad mo c ct cn sc ss sp hch hf n x post hn hx hp
  obtain ⟨q, hq8, hq, hc, hct, hr⟩ := hch
  subst hc
  obtain ⟨n, rfl⟩ : ∃ n', n = n' + 1 := ⟨n - 1, by omega⟩
  obtain ⟨j, hj, ht⟩ := hp_vt_lt (hW.1.1 t List.mem_cons_self) h16
  have hT : ct (nI q).toNatClampNeg = t := by rw [nI_clamp (by omega)]; exact hct
  have hi : vp_in (nI q) 72 := vp_in_nI hq (by decide)
  have hd : d < 16 := by have := hW.2.1.2.2.2; omega
  obtain ⟨f1, f2, f3⟩ := hf d (Nat.lt_succ_self d)
  have f4 : dcx d + 1 = nI ((dc d).toNatClampNeg + 1) := by rw [ad d (Nat.lt_succ_self d), ← nI_1, ← (hp_nb_c hW.2.2.2.2 (Nat.le_refl 32) d).2]
  have hle : FP d ≤ pl := mo.1 d (Nat.lt_succ_self d)
  refine br_f (nI_ge (b := 1000000) (by omega) (by decide)) (br_t rfl (br_f (hp_nm1 (by omega)) ⟨hi, ?_⟩))
  rw [hT]
  exact hx_prim_t h16 (br_f (by decide) ⟨hi, hx_op_bk ht hj hB he hW.2.1.1 hok (hx_back1 hd rfl f1 f2 f4 (nm_r (nI_1 x) (hG pnx dcx np nd (fun i hi => ap i (by omega)) (fun i hi => ad i (by omega)) (hq_mo_bk mo) (sc d) ct cn sc ss sp f3 (fun i hi => hf i (by omega)) n (x + 1) post (by omega) (by omega) hp)))⟩)
theorem hx_R6 (hM : M ≤ 32) : hp_R6 B D M tk (hp_XG D B M ic ini st xs xp o1 o2 o3 o4 mp mn tk sn sb it) := by
  intro k t L s pl nm e FL FS FP pn dc hW h16 hnf pnx dcx np nd ap ad mo c ct cn sc ss sp hch hf n x post hn hx hp
  obtain ⟨q, hq8, hq, hc, hct, hr⟩ := hch
  subst hc
  obtain ⟨n, rfl⟩ : ∃ n', n = n' + 2 := ⟨n - 2, by omega⟩
  have hT : ct (nI q).toNatClampNeg = t := by rw [nI_clamp (by omega)]; exact hct
  have hi : vp_in (nI q) 72 := vp_in_nI hq (by decide)
  refine br_f (nI_ge (b := 1000000) (by omega) (by decide)) (br_t rfl (br_f (hp_nm1 (by omega)) ⟨hi, ?_⟩))
  rw [hT]
  exact hx_prim_f h16 (br_t rfl ⟨hi, hx_nm_f0 hM hW.2.1.2.1 hnf (nm_r (nI_1 x) (hx_end (by decide) (hp (nI q) s (nI nm) ct cn sc ss sp pnx dcx np nd ap ad)))⟩)
theorem hx_R7 (hM : M ≤ 32) (hD : D ≤ 16) : hp_R7 B D M tk (hp_XG D B M ic ini st xs xp o1 o2 o3 o4 mp mn tk sn sb it) := by
  intro R k t L s pl nm e d FL FS FP pn dc hW h16 hnf hG pnx dcx np nd ap ad mo c ct cn sc ss sp hch hf n x post hn hx hp
  obtain ⟨q, hq8, hq, hc, hct, hr⟩ := hch
  subst hc
  obtain ⟨n, rfl⟩ : ∃ n', n = n' + 1 := ⟨n - 1, by omega⟩
  have hT : ct (nI q).toNatClampNeg = t := by rw [nI_clamp (by omega)]; exact hct
  have hi : vp_in (nI q) 72 := vp_in_nI hq (by decide)
  have hd : d < 16 := by have := hW.2.1.2.2.2; omega
  obtain ⟨f1, f2, f3⟩ := hf d (Nat.lt_succ_self d)
  have f4 : dcx d + 1 = nI ((dc d).toNatClampNeg + 1) := by rw [ad d (Nat.lt_succ_self d), ← nI_1, ← (hp_nb_c hW.2.2.2.2 (Nat.le_refl 32) d).2]
  have hle : FP d ≤ pl := mo.1 d (Nat.lt_succ_self d)
  refine br_f (nI_ge (b := 1000000) (by omega) (by decide)) (br_t rfl (br_f (hp_nm1 (by omega)) ⟨hi, ?_⟩))
  rw [hT]
  exact hx_prim_f h16 (br_t rfl ⟨hi, hx_nm_f1 hM hW.2.1.2.1 hnf hd rfl f1 f2 f4 (nm_r (nI_1 x) (hG pnx dcx np nd (fun i hi => ap i (by omega)) (fun i hi => ad i (by omega)) (hq_mo_bk mo) (sc d) ct cn sc ss sp f3 (fun i hi => hf i (by omega)) n (x + 1) post (by omega) (by omega) hp))⟩)
theorem hx_R8 (hM : M ≤ 32) (hB : B ≤ 1024) : hp_R8 B D M tk (hp_XG D B M ic ini st xs xp o1 o2 o3 o4 mp mn tk sn sb it) := by
  intro k t L s pl nm e d m FL FS FP pn dc hW h16 hm hfs hb pnx dcx np nd ap ad mo c ct cn sc ss sp hch hf n x post hn hx hp
  obtain ⟨q, hq8, hq, hc, hct, hr⟩ := hch
  subst hc
  obtain ⟨n, rfl⟩ : ∃ n', n = n' + 2 := ⟨n - 2, by omega⟩
  have hT : ct (nI q).toNatClampNeg = t := by rw [nI_clamp (by omega)]; exact hct
  have hi : vp_in (nI q) 72 := vp_in_nI hq (by decide)
  refine br_f (nI_ge (b := 1000000) (by omega) (by decide)) (br_t rfl (br_f (hp_nm1 (by omega)) ⟨hi, ?_⟩))
  rw [hT]
  exact hx_prim_f h16 (br_t rfl ⟨hi, hx_nm_bud hM hm hfs hb hB (nm_r (nI_1 x) (hx_end (by decide) (hp (nI q) s (nI nm) ct cn sc ss sp pnx dcx np nd ap ad)))⟩)
theorem hx_R9 (hM : M ≤ 32) (hB : B ≤ 1024) (hD : D ≤ 16) (hsn : hp_nb 5 sn) : hp_R9 B D M tk (fun m => hp_sl (fun i => sb (m * 4 + i)) 0 (sn m).toNatClampNeg) (fun s m => hp_ap s (mp m) (mn m)) (hp_XG D B M ic ini st xs xp o1 o2 o3 o4 mp mn tk sn sb it) := by
  intro R k t L s pl nm e d m FL FS FP pn dc hW h16 hm hfs he hdD hok hG pnx dcx np nd ap ad mo c ct cn sc ss sp hch hf n x post hn hx hp
  have hch0 := hch
  obtain ⟨q, hq8, hq, hc, hct, hr⟩ := hch
  subst hc
  obtain ⟨n, rfl⟩ : ∃ n', n = n' + 1 := ⟨n - 1, by omega⟩
  have hT : ct (nI q).toNatClampNeg = t := by rw [nI_clamp (by omega)]; exact hct
  have hi : vp_in (nI q) 72 := vp_in_nI hq (by decide)
  obtain ⟨hs1, hs2⟩ := hp_nb_c hsn (by decide) m
  refine br_f (nI_ge (b := 1000000) (by omega) (by decide)) (br_t rfl (br_f (hp_nm1 (by omega)) ⟨hi, ?_⟩))
  rw [hT]
  refine hx_prim_f h16 (br_t rfl ⟨hi, hx_nm_app hM hm hfs he hB hD hdD hok hq hs2 (by omega) hr (fun c' ct' cn' h1 h2 => nm_r (nI_1 x) (hG pnx _ np (hp_nb_u nd d ⟨m, by omega, rfl⟩) ap (hq_ag_u ad) (hq_mo_app mo) c' ct' cn' (upd sc d (nI q)) (vp_updL ss d s) (upd sp d (nI pl)) h1 ?_ n (x + 1) post (by omega) (by omega) hp))⟩)
  intro i hid
  by_cases hi2 : i = d
  · subst hi2
    rw [hp_us, hp_us, hp_us]
    refine ⟨pk_uLs, pk_us, ?_⟩
    rw [pk_us]
    exact hp_ch_w (fun j hj => ⟨hj, h2 j hj⟩) _ _ hch0
  · rw [hp_un hi2, hp_un hi2, hp_un hi2]
    obtain ⟨f1, f2, f3⟩ := hf i (by omega)
    refine ⟨(pk_uLn hi2).trans f1, (pk_un hi2).trans f2, ?_⟩
    rw [pk_un hi2]
    refine hp_ch_w (fun j hj => ⟨hj, h2 j ?_⟩) _ _ f3
    have hj' : j < 8 + 4 * i := hj
    omega
theorem hx_R10 (hM : M ≤ 32) (hB : B ≤ 1024) (hD : D ≤ 16) : hp_R10 B D M tk (fun s m => hp_ap s (mp m) (mn m)) (hp_XG D B M ic ini st xs xp o1 o2 o3 o4 mp mn tk sn sb it) := by
  intro R k t L s pl nm e d m FL FS FP pn dc hW h16 hm hfs he hok hG pnx dcx np nd ap ad mo c ct cn sc ss sp hch hf n x post hn hx hp
  have hch0 := hch
  obtain ⟨q, hq8, hq, hc, hct, hr⟩ := hch
  subst hc
  obtain ⟨n, rfl⟩ : ∃ n', n = n' + 1 := ⟨n - 1, by omega⟩
  have hT : ct (nI q).toNatClampNeg = t := by rw [nI_clamp (by omega)]; exact hct
  have hi : vp_in (nI q) 72 := vp_in_nI hq (by decide)
  have hd : d ≤ 16 := by have := hW.2.1.2.2.2; omega
  refine br_f (nI_ge (b := 1000000) (by omega) (by decide)) (br_t rfl (br_f (hp_nm1 (by omega)) ⟨hi, ?_⟩))
  rw [hT]
  exact hx_prim_f h16 (br_t rfl ⟨hi, hx_nm_skip hM hm hfs he hB hD hd hok (nm_r (nI_1 x) (hG pnx dcx np nd ap ad mo (nI q) ct cn sc ss sp hch0 hf n (x + 1) post (by omega) (by omega) hp))⟩)
theorem hx_rules (hM : M ≤ 32) (hD : D ≤ 16) (hB : B ≤ 1024) (hsn : hp_nb 5 sn) : hp_Rules B D M tk (fun m => hp_sl (fun i => sb (m * 4 + i)) 0 (sn m).toNatClampNeg) (fun s j => hp_ap s (o1 j) (o2 j)) (fun s j => (s &&& (o4 j ^^^ (-1))) ||| o3 j) (fun s m => hp_ap s (mp m) (mn m)) (hp_XG D B M ic ini st xs xp o1 o2 o3 o4 mp mn tk sn sb it) :=
  ⟨hx_R1, hx_R2 hB, hx_R3 hB, hx_R4 hB, hx_R5 hB hD, hx_R6 hM, hx_R7 hM hD, hx_R8 hM hB, hx_R9 hM hB hD hsn, hx_R10 hM hB hD⟩
end
