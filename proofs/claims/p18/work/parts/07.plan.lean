section
variable {ini : Int64} {st : Int32} {xs : Int64} {c : Int32} {s : Int64} {o1 o2 o3 o4 mp mn : Nat → Int64} {tk sn sb it pn dc ct cn sc : Nat → Int32} {ss : Nat → Int64} {sp : Nat → Int32}
theorem hx_disc {gD gB gM gI ge gp gd gn gx : Int32} {post : St2 → Prop} (hp : post (gD, gB, gM, gI, ini, 0, 0, 0, 0, ini, 0, c, s, gn, o1, o2, o3, o4, mp, mn, tk, sn, sb, it, pn, dc, ct, cn, sc, ss, sp)) : wpX_discard post (gD, gB, gM, gI, ini, st, ge, gp, gd, xs, gx, c, s, gn, o1, o2, o3, o4, mp, mn, tk, sn, sb, it, pn, dc, ct, cn, sc, ss, sp) := hp
end
theorem hp_nb0 (N : Nat) (h : 0 < N) : hp_nb N (fun _ => 0) := fun _ => ⟨0, h, rfl⟩
def hq_PL (D B M ic : Nat) (ini : Int64) (o1 o2 o3 o4 mp mn : Nat → Int64) (tk sn sb it : Nat → Int32) (R : hp_R) : Prop :=
  ∀ (st ge gp gd gx gn : Int32) (xs : Int64) (c : Int32) (s : Int64) (pn dc ct cn sc : Nat → Int32) (ss : Nat → Int64) (sp : Nat → Int32) (post : Int32 → St2 → Prop), hp_nb 16 pn → hp_nb 32 dc →
  (R.1 = 1 → ∀ (c : Int32) (s : Int64) (gn : Int32) (ct cn sc : Nat → Int32) (ss : Nat → Int64) (sp pn dc : Nat → Int32), hp_nb 16 pn → hp_nb 32 dc → (∀ i, i < R.2.1 → pn i = R.2.2.2.2.1 i) → (∀ i, i < R.2.2.1 → dc i = R.2.2.2.2.2 i) → post R.1 (nI D, nI B, nI M, nI ic, ini, R.1, nI R.2.2.2.1, nI R.2.1, nI R.2.2.1, ini, 0, c, s, gn, o1, o2, o3, o4, mp, mn, tk, sn, sb, it, pn, dc, ct, cn, sc, ss, sp)) →
  (¬ R.1 = 1 → ∀ (c : Int32) (s : Int64) (gn : Int32) (ct cn sc : Nat → Int32) (ss : Nat → Int64) (sp pn dc : Nat → Int32), post R.1 (nI D, nI B, nI M, nI ic, ini, R.1, nI R.2.2.2.1, 0, 0, ini, 0, c, s, gn, o1, o2, o3, o4, mp, mn, tk, sn, sb, it, pn, dc, ct, cn, sc, ss, sp)) →
  wpX_plan post (nI D, nI B, nI M, nI ic, ini, st, ge, gp, gd, xs, gx, c, s, gn, o1, o2, o3, o4, mp, mn, tk, sn, sb, it, pn, dc, ct, cn, sc, ss, sp)
theorem hq_plan {D B M ic : Nat} (ini : Int64) (o1 o2 o3 o4 mp mn : Nat → Int64) (tk : Nat → Int32) {sn sb it : Nat → Int32} (hM : M ≤ 32) (hD : D ≤ 16) (hB : B ≤ 1024) (hic : ic ≤ 8) (hsn : hp_nb 5 sn) (hsb : hp_nb 32 sb) (hit : hp_nb 32 it) : ∃ R : hp_R, hp_RG B R ∧ (R.1 = 1 ∨ R.1 = 2 ∨ R.1 = 3) ∧ R.2.2.1 ≤ D ∧ (R.1 = 1 → hq_rep M tk (fun m => hp_sl (fun i => sb (m * 4 + i)) 0 (sn m).toNatClampNeg) (fun s j => hp_ap s (o1 j) (o2 j)) (fun s j => (s &&& (o4 j ^^^ (-1))) ||| o3 j) (fun s m => hp_ap s (mp m) (mn m)) R.2.1 R.2.2.1 R.2.2.2.2.1 R.2.2.2.2.2 (R.2.1 + R.2.2.1) (hp_sl it 0 ic) ini 0 0) ∧ hq_PL D B M ic ini o1 o2 o3 o4 mp mn tk sn sb it R := by
  have hW : hp_WF B D (hp_sl it 0 ic) 0 0 0 0 (fun _ => []) (fun _ => 0) (fun _ => 0) (fun _ => 0) := ⟨⟨hp_sl_mem (fun i => hit i) ic 0, by rw [hp_sl_len]; omega, fun z => absurd rfl z⟩, ⟨by decide, by decide, by omega, by omega⟩, fun i hi => absurd hi (Nat.not_lt_zero i), hp_nb0 16 (by decide), hp_nb0 32 (by decide)⟩
  have hsub : ∀ m, m < M → (∀ t, t ∈ hp_sl (fun i => sb (m * 4 + i)) 0 (sn m).toNatClampNeg → hp_vt t) ∧ (hp_sl (fun i => sb (m * 4 + i)) 0 (sn m).toNatClampNeg).length ≤ 4 := by
    intro m _
    refine ⟨hp_sl_mem (fun i => hsb (m * 4 + i)) _ 0, ?_⟩
    rw [hp_sl_len]
    have := (hp_nb_c hsn (by decide) m).1
    omega
  obtain ⟨R, hR, gx, gy⟩ := hp_main hM hD hsub (hx_rules (ic := ic) (ini := ini) (st := 0) (xs := ini) (xp := 0) (o1 := o1) (o2 := o2) (o3 := o3) (o4 := o4) (mp := mp) (mn := mn) (tk := tk) (sb := sb) (it := it) hM hD hB hsn) (hq_rules (L0 := hp_sl it 0 ic) (ini := ini)) (2 * B + 1) (hp_sl it 0 ic) ini 0 0 0 0 (fun _ => []) (fun _ => 0) (fun _ => 0) (fun _ => 0) (fun _ => 0) hW (by omega)
  have mo0 : hq_mo (fun _ => 0) 0 0 := ⟨fun j hj => absurd hj (Nat.not_lt_zero j), fun i j _ hj => absurd hj (Nat.not_lt_zero j)⟩
  obtain ⟨k1, k2, k3⟩ := gy hq_pa0 mo0 (fun i hi => absurd hi (Nat.not_lt_zero i))
  refine ⟨R, hR, k1, k2, k3, ?_⟩
  intro st ge gp gd gxx gn xs c s pn dc ct cn sc ss sp post hpn hdc h1 h2
  unfold wpX_plan
  refine hx_disc ?_
  refine hx_start (e := 0) (pl := 0) (d := 0) hic (fun c' ct' cn' hch => ?_)
  refine ⟨2 * B + 2, gx pn dc hpn hdc (fun i hi => absurd hi (Nat.not_lt_zero i)) (fun i hi => absurd hi (Nat.not_lt_zero i)) mo0 c' ct' cn' sc ss sp hch (fun i hi => absurd hi (Nat.not_lt_zero i)) (2 * B + 2) 0 _ (by omega) (by omega) ?_⟩
  intro c s nm ct cn sc ss sp pnx dcx a1 a2 a3 a4
  by_cases hr : R.1 = 1
  · exact br_t hr (h1 hr c s nm ct cn sc ss sp pnx dcx a1 a2 a3 a4)
  · exact br_f hr (h2 hr c s nm ct cn sc ss sp pnx dcx)
