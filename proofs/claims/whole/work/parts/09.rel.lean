def hp_os (os o1 o2 o3 o4 : Nat → Int64) : Prop := ∀ i, i < 16 → os i = o1 i ∧ os (16 + i) = o2 i ∧ os (32 + i) = o3 i ∧ os (48 + i) = o4 i
def hp_J (D B M ic pl d ep : Nat) (os o1 o2 o3 o4 mp mn : Nat → Int64) (sn sb it pn dc : Nat → Int32) : Prop :=
  (D ≤ 16 ∧ B ≤ 1024 ∧ M ≤ 32 ∧ ic ≤ 8 ∧ pl ≤ 32 ∧ d ≤ 16 ∧ ep ≤ 32) ∧ hp_os os o1 o2 o3 o4 ∧ (∀ i, M ≤ i → mp i = 0 ∧ mn i = 0 ∧ sn i = 0) ∧ hp_nb 5 sn ∧ hp_nb 32 sb ∧ hp_nb 32 it ∧ hp_nb 16 pn ∧ hp_nb 32 dc
def i_Rel (_ : Nat) (u : SX) (v : SY) : Prop := ∃ (D B M ic pl d ep : Nat) (ini : Int64) (st e : Int32) (xs : Int64) (c : Int32) (s : Int64) (nm : Int32) (os o1 o2 o3 o4 mp mn : Nat → Int64) (tk sn sb it pn dc ct cn sc : Nat → Int32) (ss : Nat → Int64) (sp cu : Nat → Int32) (fS : Nat → Int64) (fP fT fX fN fL : Nat → Int32), u = (nI D, nI B, nI M, nI ic, ini, st, e, nI pl, nI d, xs, nI ep, c, s, nm, o1, o2, o3, o4, mp, mn, tk, sn, sb, it, pn, dc, ct, cn, sc, ss, sp) ∧ v = (nI M, nI ic, ini, nI D, nI B, st, nI pl, nI d, e, xs, nI ep, os, tk, mp, mn, sb, sn, it, pn, dc, cu, fS, fP, fT, fX, fN, fL) ∧ hp_J D B M ic pl d ep os o1 o2 o3 o4 mp mn sn sb it pn dc
theorem i_up {k : Nat} {u : SX} {v : SY} (h : i_Rel k u v) : i_Rel (k + 5) u v := h
section
variable {D B M ic pl d ep : Nat} {ini : Int64} {st e : Int32} {xs : Int64} {c : Int32} {s : Int64} {nm : Int32} {os o1 o2 o3 o4 mp mn : Nat → Int64} {tk sn sb it pn dc ct cn sc : Nat → Int32} {ss : Nat → Int64} {sp cu : Nat → Int32} {fS : Nat → Int64} {fP fT fX fN fL : Nat → Int32}
theorem hp_mk {k : Nat} (h : hp_J D B M ic pl d ep os o1 o2 o3 o4 mp mn sn sb it pn dc) : i_Rel k (nI D, nI B, nI M, nI ic, ini, st, e, nI pl, nI d, xs, nI ep, c, s, nm, o1, o2, o3, o4, mp, mn, tk, sn, sb, it, pn, dc, ct, cn, sc, ss, sp) (nI M, nI ic, ini, nI D, nI B, st, nI pl, nI d, e, xs, nI ep, os, tk, mp, mn, sb, sn, it, pn, dc, cu, fS, fP, fT, fX, fN, fL) := ⟨D, B, M, ic, pl, d, ep, ini, st, e, xs, c, s, nm, os, o1, o2, o3, o4, mp, mn, tk, sn, sb, it, pn, dc, ct, cn, sc, ss, sp, cu, fS, fP, fT, fX, fN, fL, rfl, rfl, h⟩
theorem hx_disc {gD gB gM gI ge gp gd gn gx : Int32} {post : SX → Prop} (hp : post (gD, gB, gM, gI, ini, 0, 0, 0, 0, ini, 0, c, s, gn, o1, o2, o3, o4, mp, mn, tk, sn, sb, it, pn, dc, ct, cn, sc, ss, sp)) : wpX_discard post (gD, gB, gM, gI, ini, st, ge, gp, gd, xs, gx, c, s, gn, o1, o2, o3, o4, mp, mn, tk, sn, sb, it, pn, dc, ct, cn, sc, ss, sp) := hp
theorem hy_disc {gD gB gM gI ge gp gd gx : Int32} {post : SY → Prop} (hp : post (gM, gI, ini, gD, gB, 0, 0, 0, 0, ini, 0, os, tk, mp, mn, sb, sn, it, pn, dc, cu, fS, fP, fT, fX, fN, fL)) : wpY_discard post (gM, gI, ini, gD, gB, st, gp, gd, ge, xs, gx, os, tk, mp, mn, sb, sn, it, pn, dc, cu, fS, fP, fT, fX, fN, fL) := hp
end
theorem hv_c (p : Int32) (n : Nat) (hn : 1 ≤ n) (hn2 : n < 2 ^ 31) : ∃ j : Nat, j ≤ n ∧ (∀ post : Int32 → Prop, post (nI j) → wpX_clamp post p (nI n)) ∧ (∀ P : Int32 → Prop, P (nI j) → (1 ≤ p → (p ≤ nI n → P p) ∧ (¬ p ≤ nI n → P (nI n))) ∧ (¬ 1 ≤ p → (1 ≤ nI n → P 1) ∧ (¬ 1 ≤ nI n → P (nI n)))) := by
  by_cases h1 : 1 ≤ p
  · by_cases h2 : p ≤ nI n
    · have h0 : ¬ p < 0 := Int32.not_lt.mpr (Int32.le_trans (by decide : (0 : Int32) ≤ 1) h1)
      obtain ⟨j, hj, rfl⟩ := nI_of2 (nI_toInt hn2) h0 h2
      exact ⟨j, hj, fun post hp => br_t h1 (br_t h2 hp), fun P hp => br_t h1 (br_t h2 hp)⟩
    · exact ⟨n, Nat.le_refl n, fun post hp => br_t h1 (br_f h2 hp), fun P hp => br_t h1 (br_f h2 hp)⟩
  · exact ⟨1, hn, fun post hp => br_f h1 hp, fun P hp => br_f h1 (br_t (nI_le (a := 1) hn hn2) hp)⟩
theorem hp_nb0 (N : Nat) (h : 0 < N) : hp_nb N (fun _ => 0) := fun _ => ⟨0, h, rfl⟩
theorem i_vc0 (k0 : Int32) (k1 : Int32) : wpX_init (fun u => wpY_init (fun v => i_Rel 2 u v) k0 k1) k0 k1 := by
  obtain ⟨D, hD, x1, y1⟩ := hv_c k0 16 (by decide) (by decide)
  obtain ⟨B, hB, x2, y2⟩ := hv_c k1 1024 (by decide) (by decide)
  have hJ : hp_J D B 0 0 0 0 0 (fun _ => 0) (fun _ => 0) (fun _ => 0) (fun _ => 0) (fun _ => 0) (fun _ => 0) (fun _ => 0) (fun _ => 0) (fun _ => 0) (fun _ => 0) (fun _ => 0) (fun _ => 0) := ⟨⟨hD, hB, by decide, by decide, by decide, by decide, by decide⟩, fun i _ => ⟨rfl, rfl, rfl, rfl⟩, fun i _ => ⟨rfl, rfl, rfl⟩, hp_nb0 5 (by decide), hp_nb0 32 (by decide), hp_nb0 32 (by decide), hp_nb0 16 (by decide), hp_nb0 32 (by decide)⟩
  refine x1 _ (x2 _ ?_)
  refine y1 (fun z => wY_init_152 _ k1 z 0 0 0 0 0 0 0 0 0 0 0 (fun _ => 0) (fun _ => 0) (fun _ => 0) (fun _ => 0) (fun _ => 0) (fun _ => 0) (fun _ => 0) (fun _ => 0) (fun _ => 0) (fun _ => 0) (fun _ => 0) (fun _ => 0) (fun _ => 0) (fun _ => 0) (fun _ => 0) (fun _ => 0)) ?_
  refine y2 (fun z => (fun v => i_Rel 2 _ v) (0, 0, 0, nI D, z, 0, 0, 0, 0, 0, 0, (fun _ => 0), (fun _ => 0), (fun _ => 0), (fun _ => 0), (fun _ => 0), (fun _ => 0), (fun _ => 0), (fun _ => 0), (fun _ => 0), (fun _ => 0), (fun _ => 0), (fun _ => 0), (fun _ => 0), (fun _ => 0), (fun _ => 0), (fun _ => 0))) ?_
  exact hp_mk (pl := 0) (d := 0) (ep := 0) (M := 0) (ic := 0) hJ
