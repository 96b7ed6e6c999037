def hp_ap (s p n : Int64) : Prop := (s &&& p) = p ∧ (s &&& n) = 0
def hp_dn : Nat → Int32
  | 0 => -1
  | k + 1 => nI k
theorem hp_dn_s (k : Nat) : nI k - 1 = hp_dn k := by
  cases k with
  | zero => decide
  | succ k => exact nI_pred k
theorem hp_dn_a (k : Nat) : nI k + (-1) = hp_dn k := by
  cases k with
  | zero => decide
  | succ k => exact pk_m1 k
theorem hp_nm1 {m : Nat} (h : m < 2 ^ 31) : ¬ nI m = -1 := by
  intro z
  have h2 := nI_pos h
  rw [z] at h2
  exact h2 (by decide)
theorem hp_4 : (4 : Int32) = nI 4 := rfl
theorem hp_8 : (8 : Int32) = nI 8 := rfl
theorem hp_sl_snoc (g : Nat → Int32) : ∀ n k : Nat, hp_sl g k (n + 1) = hp_sl g k n ++ [g (k + n)] := by
  intro n
  induction n with
  | zero => intro k; rfl
  | succ n ih =>
    intro k
    show g k :: hp_sl g (k + 1) (n + 1) = g k :: hp_sl g (k + 1) n ++ [g (k + (n + 1))]
    rw [ih (k + 1), show k + 1 + n = k + (n + 1) by omega]
    rfl
theorem hx_prim_t {post : Int32 → Prop} {t : Int32} (h : t < 16) (hp : post 1) : wpX_isPrimitive post () t := br_f (fun z => Int32.not_lt.mpr z h) hp
theorem hx_prim_f {post : Int32 → Prop} {t : Int32} (h : ¬ t < 16) (hp : post 0) : wpX_isPrimitive post () t := br_t (Int32.not_lt.mp h) hp
theorem hx_ap_t {post : Int32 → Prop} {s p n : Int64} (h : hp_ap s p n) (hp : post 1) : wpX_isApplicable post () s p n := br_t h.1 (br_t h.2 hp)
theorem hx_ap_f {post : Int32 → Prop} {s p n : Int64} (h : ¬ hp_ap s p n) (hp : post 0) : wpX_isApplicable post () s p n := br_c (fun h1 => br_f (fun h2 => h ⟨h1, h2⟩) hp) (fun _ => hp)
section
variable {D B M ic : Nat} {ini : Int64} {st : Int32} {e pl d : Nat} {xs : Int64} {xp c : Int32} {s : Int64} {nm : Nat} {o1 o2 o3 o4 mp mn : Nat → Int64} {tk sn sb it pn dc ct cn sc : Nat → Int32} {ss : Nat → Int64} {sp : Nat → Int32}
theorem hx_cnt_t {post : Int32 → St2 → Prop} (h : e < B) (hB : B ≤ 1024) (hp : post 1 (nI D, nI B, nI M, nI ic, ini, st, nI (e + 1), nI pl, nI d, xs, xp, c, s, nI nm, o1, o2, o3, o4, mp, mn, tk, sn, sb, it, pn, dc, ct, cn, sc, ss, sp)) : wpX_countAttempt post (nI D, nI B, nI M, nI ic, ini, st, nI e, nI pl, nI d, xs, xp, c, s, nI nm, o1, o2, o3, o4, mp, mn, tk, sn, sb, it, pn, dc, ct, cn, sc, ss, sp) := br_t (nI_lt h (by omega)) (nm_r (nI_1 e) hp)
theorem hx_cnt_f {post : Int32 → St2 → Prop} (h : e = B) (hB : B ≤ 1024) (hp : post 0 (nI D, nI B, nI M, nI ic, ini, st, nI e, nI pl, nI d, xs, xp, c, s, nI nm, o1, o2, o3, o4, mp, mn, tk, sn, sb, it, pn, dc, ct, cn, sc, ss, sp)) : wpX_countAttempt post (nI D, nI B, nI M, nI ic, ini, st, nI e, nI pl, nI d, xs, xp, c, s, nI nm, o1, o2, o3, o4, mp, mn, tk, sn, sb, it, pn, dc, ct, cn, sc, ss, sp) := br_f (nI_nlt (by omega) (by omega)) hp
theorem hx_back0 {post : Int32 → St2 → Prop} (hp : post 2 (nI D, nI B, nI M, nI ic, ini, st, nI e, nI pl, nI 0, xs, xp, c, s, nI nm, o1, o2, o3, o4, mp, mn, tk, sn, sb, it, pn, dc, ct, cn, sc, ss, sp)) : wpX_goBack post (nI D, nI B, nI M, nI ic, ini, st, nI e, nI pl, nI 0, xs, xp, c, s, nI nm, o1, o2, o3, o4, mp, mn, tk, sn, sb, it, pn, dc, ct, cn, sc, ss, sp) := br_t nI_0 hp
theorem hx_back1 {post : Int32 → St2 → Prop} {c' p' n' : Int32} {s' : Int64} (hd : d < 16) (h1 : sc d = c') (h2 : ss d = s') (h3 : sp d = p') (h4 : dc d + 1 = n') (hp : post 0 (nI D, nI B, nI M, nI ic, ini, st, nI e, p', nI d, xs, xp, c', s', n', o1, o2, o3, o4, mp, mn, tk, sn, sb, it, pn, dc, ct, cn, sc, ss, sp)) : wpX_goBack post (nI D, nI B, nI M, nI ic, ini, st, nI e, nI pl, nI (d + 1), xs, xp, c, s, nI nm, o1, o2, o3, o4, mp, mn, tk, sn, sb, it, pn, dc, ct, cn, sc, ss, sp) := by
  have hc : (nI d).toNatClampNeg = d := nI_clamp (by omega)
  have hi : vp_in (nI d) 16 := vp_in_nI hd (by decide)
  have e1 : sc (nI d).toNatClampNeg = c' := by rw [hc]; exact h1
  have e2 : ss (nI d).toNatClampNeg = s' := by rw [hc]; exact h2
  have e3 : sp (nI d).toNatClampNeg = p' := by rw [hc]; exact h3
  have e4 : dc (nI d).toNatClampNeg + 1 = n' := by rw [hc]; exact h4
  exact br_f (nI_ne0 (Nat.succ_pos d) (by omega)) (nm_r (nI_pred d) ⟨hi, nm_r e1 ⟨hi, nm_r e2 ⟨hi, nm_r e3 ⟨hi, nm_r e4 hp⟩⟩⟩⟩)
theorem hx_op_bud {post : Int32 → St2 → Prop} {t : Int32} (h : e = B) (hB : B ≤ 1024) (hp : post 3 (nI D, nI B, nI M, nI ic, ini, st, nI e, nI pl, nI d, xs, xp, c, s, nI nm, o1, o2, o3, o4, mp, mn, tk, sn, sb, it, pn, dc, ct, cn, sc, ss, sp)) : wpX_tryOperator post (nI D, nI B, nI M, nI ic, ini, st, nI e, nI pl, nI d, xs, xp, c, s, nI nm, o1, o2, o3, o4, mp, mn, tk, sn, sb, it, pn, dc, ct, cn, sc, ss, sp) t := by
  unfold wpX_tryOperator
  exact hx_cnt_f h hB (br_t rfl hp)
theorem hx_op_ok {post : Int32 → St2 → Prop} {t : Int32} {j q : Nat} (ht : t = nI j) (hj : j < 16) (hB : B ≤ 1024) (he : e < B) (hpl : pl < 32) (ha : hp_ap s (o1 t.toNatClampNeg) (o2 t.toNatClampNeg)) (hq : q < 72) (hp : post 0 (nI D, nI B, nI M, nI ic, ini, st, nI (e + 1), nI (pl + 1), nI d, xs, xp, cn q, (s &&& (o4 t.toNatClampNeg ^^^ (-1))) ||| o3 t.toNatClampNeg, nI nm, o1, o2, o3, o4, mp, mn, tk, sn, sb, it, upd pn pl t, dc, ct, cn, sc, ss, sp)) : wpX_tryOperator post (nI D, nI B, nI M, nI ic, ini, st, nI e, nI pl, nI d, xs, xp, nI q, s, nI nm, o1, o2, o3, o4, mp, mn, tk, sn, sb, it, pn, dc, ct, cn, sc, ss, sp) t := by
  have hcp : upd pn (nI pl).toNatClampNeg t = upd pn pl t := by rw [nI_clamp (by omega)]
  have hcq : cn (nI q).toNatClampNeg = cn q := by rw [nI_clamp (by omega)]
  have hi : vp_in t 16 := by rw [ht]; exact vp_in_nI hj (by decide)
  unfold wpX_tryOperator
  refine hx_cnt_t he hB (br_f (by decide) (br_f (nI_ge (b := 32) hpl (by decide)) ⟨hi, hi, ?_⟩))
  refine hx_ap_t ha (br_f (by decide) ⟨vp_in_nI hpl (by decide), nm_r hcp (nm_r (nI_1 pl) ?_)⟩)
  exact ⟨hi, hi, ⟨vp_in_nI hq (by decide), nm_r hcq hp⟩⟩
theorem hx_op_bk {post : Int32 → St2 → Prop} {t : Int32} {j : Nat} (ht : t = nI j) (hj : j < 16) (hB : B ≤ 1024) (he : e < B) (hpl : pl ≤ 32) (hn : ¬ (pl < 32 ∧ hp_ap s (o1 t.toNatClampNeg) (o2 t.toNatClampNeg))) (hg : wX_tryOperator_40 post (nI D) (nI B) (nI M) (nI ic) ini st (nI (e + 1)) (nI pl) (nI d) xs xp c s (nI nm) o1 o2 o3 o4 mp mn tk sn sb it pn dc ct cn sc ss sp) : wpX_tryOperator post (nI D, nI B, nI M, nI ic, ini, st, nI e, nI pl, nI d, xs, xp, c, s, nI nm, o1, o2, o3, o4, mp, mn, tk, sn, sb, it, pn, dc, ct, cn, sc, ss, sp) t := by
  have hi : vp_in t 16 := by rw [ht]; exact vp_in_nI hj (by decide)
  unfold wpX_tryOperator
  by_cases h32 : pl < 32
  · exact hx_cnt_t he hB (br_f (by decide) (br_f (nI_ge (b := 32) h32 (by decide)) ⟨hi, hi, hx_ap_f (fun z => hn ⟨h32, z⟩) (br_t rfl hg)⟩))
  · exact hx_cnt_t he hB (br_f (by decide) (br_t (nI_le (a := 32) (by omega) (by omega)) hg))
theorem hx_find_t {post : Int32 → Prop} {t : Int32} {m : Nat} (hM : M ≤ 32) (hm : m < M) (ht : tk m = t) (hp : post (nI m)) : ∀ (k j : Nat), j + k = m → (∀ i, j ≤ i → i < m → tk i ≠ t) → wX_findMethod_2 post t (nI D) (nI B) (nI M) (nI ic) ini st (nI e) (nI pl) (nI d) xs xp c s (nI nm) o1 o2 o3 o4 mp mn tk sn sb it pn dc ct cn sc ss sp (k + 1) (nI j) := by
  intro k
  induction k with
  | zero =>
    intro j hj _
    have hj' : j = m := by omega
    rw [hj']
    exact br_f (nI_ge hm (by omega)) ⟨vp_in_nI (by omega) (by decide), br_t (by rw [nI_clamp (by omega)]; exact ht) hp⟩
  | succ k ih =>
    intro j hj hne
    exact br_f (nI_ge (by omega) (by omega)) ⟨vp_in_nI (by omega) (by decide), br_f (by rw [nI_clamp (by omega)]; exact hne j (Nat.le_refl j) (by omega)) (nm_r (nI_1 j) (ih (j + 1) (by omega) (fun i a b => hne i (by omega) b)))⟩
theorem hx_find_f {post : Int32 → Prop} {t : Int32} (hM : M ≤ 32) (hp : post (-1)) : ∀ (k j : Nat), M ≤ j + k → j ≤ 32 → (∀ i, j ≤ i → i < M → tk i ≠ t) → wX_findMethod_2 post t (nI D) (nI B) (nI M) (nI ic) ini st (nI e) (nI pl) (nI d) xs xp c s (nI nm) o1 o2 o3 o4 mp mn tk sn sb it pn dc ct cn sc ss sp (k + 1) (nI j) := by
  intro k
  induction k with
  | zero =>
    intro j hj h32 _
    exact br_t (nI_le (by omega) (by omega)) hp
  | succ k ih =>
    intro j hj h32 hne
    by_cases hMj : M ≤ j
    · exact br_t (nI_le hMj (by omega)) hp
    · exact br_f (nI_ge (by omega) (by omega)) ⟨vp_in_nI (by omega) (by decide), br_f (by rw [nI_clamp (by omega)]; exact hne j (Nat.le_refl j) (by omega)) (nm_r (nI_1 j) (ih (j + 1) (by omega) (by omega) (fun i a b => hne i (by omega) b)))⟩
theorem hx_fT {post : Int32 → Prop} {t : Int32} {m : Nat} (hM : M ≤ 32) (hm : m < M) (hf : hp_fs tk t nm m) (hp : post (nI m)) : wpX_findMethod post (nI D, nI B, nI M, nI ic, ini, st, nI e, nI pl, nI d, xs, xp, c, s, nI nm, o1, o2, o3, o4, mp, mn, tk, sn, sb, it, pn, dc, ct, cn, sc, ss, sp) t (nI nm) := ⟨m - nm + 1, hx_find_t hM hm hf.2.1 hp (m - nm) nm (by have := hf.1; omega) hf.2.2⟩
theorem hx_fF {post : Int32 → Prop} {t : Int32} (hM : M ≤ 32) (hnm : nm ≤ 32) (hf : ∀ j, nm ≤ j → j < M → tk j ≠ t) (hp : post (-1)) : wpX_findMethod post (nI D, nI B, nI M, nI ic, ini, st, nI e, nI pl, nI d, xs, xp, c, s, nI nm, o1, o2, o3, o4, mp, mn, tk, sn, sb, it, pn, dc, ct, cn, sc, ss, sp) t (nI nm) := ⟨M + 1, hx_find_f hM hp M nm (by omega) hnm hf⟩
theorem hx_put {post : St2 → Prop} {x t t' : Int32} {q : Nat} (hx : x = nI q) (ht : t = t') (hq : q < 72) (hp : post (nI D, nI B, nI M, nI ic, ini, st, nI e, nI pl, nI d, xs, xp, nI q, s, nI nm, o1, o2, o3, o4, mp, mn, tk, sn, sb, it, pn, dc, upd ct q t', upd cn q c, sc, ss, sp)) : wpX_putFirst post (nI D, nI B, nI M, nI ic, ini, st, nI e, nI pl, nI d, xs, xp, c, s, nI nm, o1, o2, o3, o4, mp, mn, tk, sn, sb, it, pn, dc, ct, cn, sc, ss, sp) x t := by
  subst hx ht
  have e1 : upd ct (nI q).toNatClampNeg t = upd ct q t := by rw [nI_clamp (by omega)]
  have e2 : upd cn (nI q).toNatClampNeg c = upd cn q c := by rw [nI_clamp (by omega)]
  have hi : vp_in (nI q) 72 := vp_in_nI hq (by decide)
  exact ⟨hi, nm_r e1 ⟨hi, nm_r e2 hp⟩⟩
end
