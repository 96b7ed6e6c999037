theorem hq_app_t {post : Int32 → Prop} {s p n : Int64} (h : hp_ap s p n) (hp : post 1) : wpL_app post () s p n := br_t h.1 (br_t h.2 hp)
section
variable {D B M ic : Nat} {ini : Int64} {st ge gp gd gx gn : Int32} {xs : Int64} {c : Int32} {s : Int64} {o1 o2 o3 o4 mp mn : Nat → Int64} {tk sn sb it pn dc ct cn sc : Nat → Int32} {ss : Nat → Int64} {sp : Nat → Int32} {R : hp_R} {L kc ks : Nat} {sx : Nat → Int32} {post : Int32 → Prop}
theorem hq_gv0 {post : Int64 → Prop} {t : Int32} {j : Nat} (ht : t = nI j) (hj : j < 16) (hp : post (o1 t.toNatClampNeg)) : wpX_getSet post (nI D, nI B, nI M, nI ic, ini, st, ge, gp, gd, xs, gx, c, s, gn, o1, o2, o3, o4, mp, mn, tk, sn, sb, it, pn, dc, ct, cn, sc, ss, sp) 0 t := by
  subst ht
  rw [nI_clamp (by omega)] at hp
  exact hq_gs0 hj hp
theorem hq_gv1 {post : Int64 → Prop} {t : Int32} {j : Nat} (ht : t = nI j) (hj : j < 16) (hp : post (o2 t.toNatClampNeg)) : wpX_getSet post (nI D, nI B, nI M, nI ic, ini, st, ge, gp, gd, xs, gx, c, s, gn, o1, o2, o3, o4, mp, mn, tk, sn, sb, it, pn, dc, ct, cn, sc, ss, sp) 1 t := by
  subst ht
  rw [nI_clamp (by omega)] at hp
  exact hq_gs1 hj hp
theorem hq_gv2 {post : Int64 → Prop} {t : Int32} {j : Nat} (ht : t = nI j) (hj : j < 16) (hp : post (o3 t.toNatClampNeg)) : wpX_getSet post (nI D, nI B, nI M, nI ic, ini, st, ge, gp, gd, xs, gx, c, s, gn, o1, o2, o3, o4, mp, mn, tk, sn, sb, it, pn, dc, ct, cn, sc, ss, sp) 2 t := by
  subst ht
  rw [nI_clamp (by omega)] at hp
  exact hq_gs2 hj hp
theorem hq_gv3 {post : Int64 → Prop} {t : Int32} {j : Nat} (ht : t = nI j) (hj : j < 16) (hp : post (o4 t.toNatClampNeg)) : wpX_getSet post (nI D, nI B, nI M, nI ic, ini, st, ge, gp, gd, xs, gx, c, s, gn, o1, o2, o3, o4, mp, mn, tk, sn, sb, it, pn, dc, ct, cn, sc, ss, sp) 3 t := by
  subst ht
  rw [nI_clamp (by omega)] at hp
  exact hq_gs3 hj hp
theorem hq_gdr {post : Int32 → Prop} {i n : Nat} {r : Int32} (hn : n ≤ 16) (hi : i < n) (hg : gd = nI n) (hr : dc i = r) (hp : post r) : wpX_getDecompMethod post (nI D, nI B, nI M, nI ic, ini, st, ge, gp, gd, xs, gx, c, s, gn, o1, o2, o3, o4, mp, mn, tk, sn, sb, it, pn, dc, ct, cn, sc, ss, sp) (nI i) := hq_gd hn hi hg (hr.symm ▸ hp)
theorem hq_1112 {z0 z1 : Int32} (hPL : hq_PL D B M ic ini o1 o2 o3 o4 mp mn tk sn sb it R) (h1 : R.1 = 1) (hpn : hp_nb 16 pn) (hdc : hp_nb 32 dc) (hp : post 1) (hz : z1 = z0) : wL_law_1112 post L sx R.1 (nI R.2.2.2.1) (nI R.2.1) (nI R.2.2.1) z0 z1 kc ks (nI D) (nI B) (nI M) (nI ic) ini st ge gp gd xs gx c s gn o1 o2 o3 o4 mp mn tk sn sb it pn dc ct cn sc ss sp := by
  refine br_t hz (hPL _ _ _ _ _ _ _ _ _ _ _ _ _ _ _ _ _ hpn hdc ?_ (fun z => absurd h1 z))
  intro _ c s gn ct cn sc ss sp pn dc _ _ _ _
  exact br_t rfl (hq_i3 (br_t rfl (hq_i1 (br_t rfl (hq_i2 (br_t rfl hp))))))
theorem hq_926 (hPL : hq_PL D B M ic ini o1 o2 o3 o4 mp mn tk sn sb it R) (h1 : R.1 = 1) (hn : R.2.1 ≤ 32) (hpn : hp_nb 16 pn) (hdc : hp_nb 32 dc) (hok : ∀ i, i < R.2.1 → hp_ap (hq_s (fun s j => (s &&& (o4 j ^^^ (-1))) ||| o3 j) pn ini i) (o1 (pn i).toNatClampNeg) (o2 (pn i).toNatClampNeg)) (hp : post 1) : ∀ (k i : Nat), i + k = R.2.1 → wL_law_926 post L sx ini R.1 (nI R.2.2.2.1) (nI R.2.1) (nI R.2.2.1) (hq_s (fun s j => (s &&& (o4 j ^^^ (-1))) ||| o3 j) pn ini R.2.1) kc ks (k + 1) (hq_s (fun s j => (s &&& (o4 j ^^^ (-1))) ||| o3 j) pn ini i) (nI i) (nI D) (nI B) (nI M) (nI ic) ini R.1 (nI R.2.2.2.1) (nI R.2.1) (nI R.2.2.1) (hq_s (fun s j => (s &&& (o4 j ^^^ (-1))) ||| o3 j) pn ini i) (nI i) c s gn o1 o2 o3 o4 mp mn tk sn sb it pn dc ct cn sc ss sp := by
  intro k
  induction k with
  | zero =>
    intro i hi
    have hi' : i = R.2.1 := by omega
    rw [hi']
    refine br_t (nI_le (Nat.le_refl _) (by omega)) (hq_ex0 hn (Nat.le_refl _) hn rfl (br_t rfl (hq_ex0 hn (Nat.le_refl _) hn rfl (br_t rfl (br_t rfl (br_t rfl (br_t rfl (hq_i4 (br_t rfl ?_)))))))))
    by_cases h0 : R.2.1 = 0
    · exact hq_ex0 (i := 0) hn (by omega) (by decide) rfl (br_t (nI_le (b := 0) (by omega) (by decide)) (hq_1112 hPL h1 hpn hdc hp rfl))
    · exact hq_ex1 (i := 0) h1 hn (by omega) rfl hpn (hok 0 (by omega)) (br_f (nI_nle (by omega) (by omega)) (hq_gp (i := 0) hn (by omega) rfl (hq_1112 hPL h1 hpn hdc hp rfl)))
  | succ k ih =>
    intro i hi
    have hi2 : i < R.2.1 := by omega
    obtain ⟨j, hj, ej⟩ := hpn i
    have n0 : ¬ pn i < 0 := by rw [ej]; exact nI_pos (by omega)
    have n15 : ¬ 15 < pn i := by rw [ej]; exact nI_nlt (a := 15) (by omega) (by decide)
    have e1 : (hq_s (fun s j => (s &&& (o4 j ^^^ (-1))) ||| o3 j) pn ini i &&& (o4 (pn i).toNatClampNeg ^^^ (-1))) ||| o3 (pn i).toNatClampNeg = hq_s (fun s j => (s &&& (o4 j ^^^ (-1))) ||| o3 j) pn ini (i + 1) := rfl
    refine br_f (nI_ge hi2 (by omega)) (hq_gp hn hi2 rfl (br_f n0 (br_f n15 (hq_ex1 h1 hn hi2 rfl hpn (hok i hi2) (br_t rfl ?_)))))
    exact hq_gv3 ej hj (hq_gv2 ej hj (nm_r e1 (br_t rfl (hq_i4 (br_t (nI_1 i).symm (nm_r (nI_1 i) (ih (i + 1) (by omega))))))))
theorem hq_876 {x15 x18 x19 : Int32} {x16 : Int64} (hPL : hq_PL D B M ic ini o1 o2 o3 o4 mp mn tk sn sb it R) (h1 : R.1 = 1) (hn : R.2.1 ≤ 32) (hpn : hp_nb 16 pn) (hdc : hp_nb 32 dc) (hok : ∀ i, i < R.2.1 → hp_ap (hq_s (fun s j => (s &&& (o4 j ^^^ (-1))) ||| o3 j) pn ini i) (o1 (pn i).toNatClampNeg) (o2 (pn i).toNatClampNeg)) (hp : post 1) (h15 : x15 = 0) (h18 : x18 = nI R.2.1) (h19 : x19 = nI R.2.2.1) (h16 : x16 = hq_s (fun s j => (s &&& (o4 j ^^^ (-1))) ||| o3 j) pn ini R.2.1) : wL_law_876 post L sx ini R.1 (nI R.2.2.2.1) (nI R.2.1) (nI R.2.2.1) x15 x16 x18 x19 kc ks (nI D) (nI B) (nI M) (nI ic) ini R.1 (nI R.2.2.2.1) (nI R.2.1) (nI R.2.2.1) ini 0 c s gn o1 o2 o3 o4 mp mn tk sn sb it pn dc ct cn sc ss sp := by
  subst h16
  exact br_t h15 (br_t h18 (br_t h19 (br_t rfl (hq_i4 (br_t rfl ⟨R.2.1 + 1, hq_926 hPL h1 hn hpn hdc hok hp R.2.1 0 (Nat.zero_add _)⟩)))))
theorem hq_779 {J : Int64 → Int32 → Int64 → Int32 → Int32 → Int32 → Prop} {x5 x16 : Int64} {x7 x9 x10 x11 x12 x18 : Int32} {m q di y : Nat} {A : List Int32} (hM : M ≤ 32) (hm : m < M) (hq : sn m = nI q) (hq4 : q < 4) (hsb : hp_nb 32 sb) (hA : ∀ t, t ∈ A → hp_vt t) (hAl : A.length + q ≤ 12) (hp : J (lN (hq_pk (hp_sl (fun i => sb (m * 4 + i)) 0 q ++ A))) (nI (A.length + q)) x16 x18 (nI (di + 1)) (nI (y + 1))) : ∀ (k i : Nat), i + k = q → wL_law_779 post L sx J x5 x7 x9 x10 x11 x12 (lN (hq_pk A)) (nI A.length) x16 x18 (nI di) (nI y) (nI m) kc ks (nI D) (nI B) (nI M) (nI ic) ini st ge gp gd xs gx c s gn o1 o2 o3 o4 mp mn tk sn sb it pn dc ct cn sc ss sp (k + 1) (nI i) (lN (hq_pk (hp_sl (fun i => sb (m * 4 + i)) 0 i))) (nI (i + 1)) := by
  intro k
  induction k with
  | zero =>
    intro i hi
    have hi' : i = q := by omega
    rw [hi']
    have hS : ∀ t, t ∈ hp_sl (fun i => sb (m * 4 + i)) 0 q → hp_vt t := hp_sl_mem (fun i => hsb (m * 4 + i)) q 0
    have h12 : nI A.length + nI q ≤ 12 := by rw [nI_add]; exact nI_le (b := 12) hAl (by decide)
    refine br_f (nI_nlt (a := 4) (by omega) (by decide)) (hq_men hM hm hq (by omega) (Nat.lt_succ_self q) (by omega) (br_f (by decide) (br_t h12 ?_)))
    by_cases h0 : q = 0
    · subst h0
      exact br_t nI_0 (nm_r (hq_or0 hA (by omega)) (nm_r (nI_add _ _) (nm_r (nI_1 di) (nm_r (nI_1 y) hp))))
    · exact br_f (nI_ne0 (by omega) (by omega)) (nm_r (hq_or (hp_sl_len _ q 0) hS hA (by rw [hp_sl_len]; omega)) (nm_r (nI_add _ _) (nm_r (nI_1 di) (nm_r (nI_1 y) hp))))
  | succ k ih =>
    intro i hi
    have hS : ∀ t, t ∈ hp_sl (fun i => sb (m * 4 + i)) 0 i → hp_vt t := hp_sl_mem (fun i => hsb (m * 4 + i)) i 0
    have hv : hp_vt (sb (m * 4 + i)) := hsb (m * 4 + i)
    have h0 : (0 : Int32) ≤ sb (m * 4 + i) := by
      obtain ⟨j, hj, ej⟩ := hv
      rw [ej]
      exact nI_pos' (by omega)
    have e1 : lN (hq_pk (hp_sl (fun i => sb (m * 4 + i)) 0 i)) ||| ((sb (m * 4 + i)).toInt64 <<< ((5 * nI i).toInt64 &&& 63)) = lN (hq_pk (hp_sl (fun i => sb (m * 4 + i)) 0 (i + 1))) := by
      rw [hq_or1 (hp_sl_len _ i 0) hS hv (by omega), hp_sl_snoc, Nat.zero_add]
    exact br_f (nI_nlt (a := 4) (by omega) (by decide)) (hq_mek hM hm hq (by omega) (by omega) (br_t h0 (nm_r e1 (nm_r (nI_1 i) (nm_r (nI_1 (i + 1)) (ih (i + 1) (by omega)))))))
theorem hq_583 (hPL : hq_PL D B M ic ini o1 o2 o3 o4 mp mn tk sn sb it R) (h1 : R.1 = 1) (hn : R.2.1 ≤ 32) (hdl : R.2.2.1 ≤ 4) (hM : M ≤ 32) (hsn : hp_nb 4 sn) (hsb : hp_nb 32 sb) (hpn : hp_nb 16 pn) (hdc : hp_nb 32 dc) (hok : ∀ i, i < R.2.1 → hp_ap (hq_s (fun s j => (s &&& (o4 j ^^^ (-1))) ||| o3 j) pn ini i) (o1 (pn i).toNatClampNeg) (o2 (pn i).toNatClampNeg)) (hp : post 1) : ∀ (f : Nat) (A : List Int32) (s' : Int64) (pi di : Nat), hq_rep M tk (fun m => hp_sl (fun i => sb (m * 4 + i)) 0 (sn m).toNatClampNeg) (fun s j => hp_ap s (o1 j) (o2 j)) (fun s j => (s &&& (o4 j ^^^ (-1))) ||| o3 j) (fun s m => hp_ap s (mp m) (mn m)) R.2.1 R.2.2.1 pn dc f A s' pi di → s' = hq_s (fun s j => (s &&& (o4 j ^^^ (-1))) ||| o3 j) pn ini pi → (∀ t, t ∈ A → hp_vt t) → A.length ≤ 3 + 2 * di → di ≤ 4 → pi + di + f < 64 → wL_law_583 post L sx ini (nI M) R.1 (nI R.2.2.2.1) (nI R.2.1) (nI R.2.2.1) kc ks (nI D) (nI B) (nI M) (nI ic) ini R.1 (nI R.2.2.2.1) (nI R.2.1) (nI R.2.2.1) ini 0 c s gn o1 o2 o3 o4 mp mn tk sn sb it pn dc ct cn sc ss sp (f + 1) (lN (hq_pk A)) (nI A.length) s' (nI pi) (nI di) (nI (pi + di)) := by
  intro f
  induction f with
  | zero =>
    intro A s' pi di hr hs hA hl hd4 hf
    obtain ⟨e1, e2, e3⟩ := hr
    subst e1
    exact br_f (nI_ge (b := 64) (by omega) (by decide)) (br_t (nI_le (a := 0) (b := 0) (Nat.le_refl 0) (by decide)) (hq_876 hPL h1 hn hpn hdc hok hp rfl (congrArg nI e2) (congrArg nI e3) (by rw [hs, e2])))
  | succ f ih =>
    intro A s' pi di hr hs hA hl hd4 hf
    obtain ⟨t, A', e, hr⟩ := hr
    subst e
    have hlc : (t :: A').length = A'.length + 1 := rfl
    have hA' : ∀ x, x ∈ A' → hp_vt x := fun x hx => hA x (List.mem_cons_of_mem t hx)
    have hpos : ¬ nI (t :: A').length ≤ 0 := nI_nle (by omega) (by omega)
    refine br_f (nI_ge (b := 64) (by omega) (by decide)) (br_f hpos (nm_r (hq_head hA (by omega)) (nm_r (hq_tail hA (by omega)) (nm_r (pk_m1 A'.length) ?_))))
    rcases hr with ⟨a1, a2, a3, a4, a5⟩ | ⟨a1, a2, m, a3, a4, a5, a6, a7⟩
    · obtain ⟨j, hj, ej⟩ := hp_vt_lt (hA t List.mem_cons_self) a1
      have e9 : nI (pi + di) + 1 = nI (pi + 1 + di) := by rw [nI_1, Nat.add_right_comm]
      refine br_f (fun z => Int32.not_lt.mpr z a1) (br_f (nI_ge a2 (by omega)) (hq_gp hn a2 rfl (br_t a3 (hq_gv0 ej hj (hq_gv1 ej hj (hq_app_t a4 (br_f hp_1n0 ?_)))))))
      refine hq_gv3 ej hj (hq_gv2 ej hj (nm_e (nm_r (nI_1 pi) (nm_r e9 (ih A' _ (pi + 1) di a5 ?_ hA' (by omega) hd4 (by omega))))))
      show (s' &&& (o4 t.toNatClampNeg ^^^ (-1))) ||| o3 t.toNatClampNeg = (hq_s (fun s j => (s &&& (o4 j ^^^ (-1))) ||| o3 j) pn ini pi &&& (o4 (pn pi).toNatClampNeg ^^^ (-1))) ||| o3 (pn pi).toNatClampNeg
      rw [a3, hs]
    · obtain ⟨q1, q2⟩ := hp_nb_c hsn (by decide) m
      have q5 : hp_nb 32 sb := hsb
      refine br_t (Int32.not_lt.mp a1) (br_t (nI_lt a2 (by omega)) (hq_gdr (by omega) a2 rfl a4 (br_f (nI_pos (by omega)) (br_f (nI_ge a3 (by omega)) (hq_me0 hM a3 q2 (by omega) (br_t a5 (hq_gs4 hM a3 (hq_gs5 hM a3 (hq_app_t a6 (br_f hp_1n0 ⟨(sn m).toNatClampNeg + 1, ?_⟩))))))))))
      refine hq_779 (q := (sn m).toNatClampNeg) hM a3 q2 q1 hsb hA' (by omega) ?_ (sn m).toNatClampNeg 0 (Nat.zero_add _)
      have hS : ∀ x, x ∈ hp_sl (fun i => sb (m * 4 + i)) 0 (sn m).toNatClampNeg → hp_vt x := hp_sl_mem (fun i => hsb (m * 4 + i)) _ 0
      have h9 := ih (hp_sl (fun i => sb (m * 4 + i)) 0 (sn m).toNatClampNeg ++ A') s' pi (di + 1) a7 hs (hq_mem_app hS hA') (by rw [List.length_append, hp_sl_len]; omega) (by omega) (by omega)
      rw [List.length_append, hp_sl_len, Nat.add_comm (sn m).toNatClampNeg A'.length, ← Nat.add_assoc] at h9
      exact h9
theorem hq_536 (hPL : hq_PL D B M ic ini o1 o2 o3 o4 mp mn tk sn sb it R) (h1 : R.1 = 1) (hn : R.2.1 ≤ 32) (hdl : R.2.2.1 ≤ 4) (hM : M ≤ 32) (hic : ic ≤ 3) (hsn : hp_nb 4 sn) (hsb : hp_nb 32 sb) (hit : hp_nb 32 it) (hpn : hp_nb 16 pn) (hdc : hp_nb 32 dc) (hrep : hq_rep M tk (fun m => hp_sl (fun i => sb (m * 4 + i)) 0 (sn m).toNatClampNeg) (fun s j => hp_ap s (o1 j) (o2 j)) (fun s j => (s &&& (o4 j ^^^ (-1))) ||| o3 j) (fun s m => hp_ap s (mp m) (mn m)) R.2.1 R.2.2.1 pn dc (R.2.1 + R.2.2.1) (hp_sl it 0 ic) ini 0 0) (hp : post 1) : ∀ (k i : Nat), i + k = ic → wL_law_536 post L sx ini (nI M) (nI ic) R.1 (nI R.2.2.2.1) (nI R.2.1) (nI R.2.2.1) kc ks (nI D) (nI B) (nI M) (nI ic) ini R.1 (nI R.2.2.2.1) (nI R.2.1) (nI R.2.2.1) ini 0 c s gn o1 o2 o3 o4 mp mn tk sn sb it pn dc ct cn sc ss sp (k + 1) (lN (hq_pk (hp_sl it 0 i))) (nI i) (nI i) := by
  have hok : ∀ i, i < R.2.1 → hp_ap (hq_s (fun s j => (s &&& (o4 j ^^^ (-1))) ||| o3 j) pn ini i) (o1 (pn i).toNatClampNeg) (o2 (pn i).toNatClampNeg) := fun i hi => hq_rep_ok (ini := ini) _ _ _ _ _ hrep rfl i (Nat.zero_le i) hi
  intro k
  induction k with
  | zero =>
    intro i hi
    have hi' : i = ic := by omega
    rw [hi']
    have hl : (hp_sl it 0 ic).length = ic := hp_sl_len it ic 0
    have h9 := hq_583 (kc := kc) (ks := ks) (L := L) (sx := sx) (c := c) (s := s) (gn := gn) (ct := ct) (cn := cn) (sc := sc) (ss := ss) (sp := sp) hPL h1 hn hdl hM hsn hsb hpn hdc hok hp (R.2.1 + R.2.2.1) (hp_sl it 0 ic) ini 0 0 hrep rfl (hp_sl_mem (fun i => hit i) ic 0) (by omega) (by omega) (by omega)
    rw [hl] at h9
    exact br_t (nI_le (Nat.le_refl _) (by omega)) ⟨_, h9⟩
  | succ k ih =>
    intro i hi
    have e1 : lN (hq_pk (hp_sl it 0 i)) ||| ((it i).toInt64 <<< ((5 * nI i).toInt64 &&& 63)) = lN (hq_pk (hp_sl it 0 (i + 1))) := by
      rw [hq_or1 (hp_sl_len _ i 0) (hp_sl_mem (fun i => hit i) i 0) (hit i) (by omega), hp_sl_snoc, Nat.zero_add]
    exact br_f (nI_ge (by omega) (by omega)) (hq_gt (by omega) (by omega) (nm_r e1 (nm_r (nI_1 i) (nm_r (nI_1 i) (ih (i + 1) (by omega))))))
end
