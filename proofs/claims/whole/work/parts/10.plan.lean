theorem hp_slv {g : Nat → Int32} (h : hp_nb 32 g) : ∀ i, hp_vt (g i) := fun i => h i
section
variable {D B M ic : Nat} {ini : Int64} {st qp qd qe : Int32} {xs : Int64} {xp : Int32} {os mp mn : Nat → Int64} {tk sn sb it pn dc cu : Nat → Int32} {fS : Nat → Int64} {fP fT fX fN fL : Nat → Int32}
theorem hy_plan {post : Int32 → SY → Prop} {R : hp_R} {k : Nat} {FL : Nat → List Int32} {FS : Nat → Int64} {FP : Nat → Nat} (hic : ic ≤ 8) (hk : 3 * k < 100000) (gy : hp_YG D B M ic ini st qp qd qe xs xp os mp mn tk sn sb it R k (hp_sl it 0 ic) ini 0 0 0 0 FL FS FP pn dc) (hF : hp_YF D B M ic ini os mp mn tk sn sb it R post) : wpY_plan post (nI M, nI ic, ini, nI D, nI B, st, qp, qd, qe, xs, xp, os, tk, mp, mn, sb, sn, it, pn, dc, cu, fS, fP, fT, fX, fN, fL) := by
  refine ⟨9, hy_12 ?_ 8 0 cu rfl (fun j hj => absurd hj (Nat.not_lt_zero j))⟩
  intro cu' h1
  refine ⟨3 * k + 1, gy 2 ini (nI ic) 0 0 0 0 cu' fS fP fT fX fN fL ⟨fun i hi => absurd hi (Nat.not_lt_zero i), Or.inl ⟨rfl, rfl, rfl, congrArg nI (hp_sl_len it ic 0).symm, rfl, rfl, rfl, hp_ar_sl ic 0 0 (fun j hj => ?_)⟩⟩ (3 * k + 1) 0 post (by omega) (by omega) hF⟩
  rw [Nat.zero_add]
  exact h1 j (by omega)
end
theorem i_vc_plan {k : Nat} {u : SX} {v : SY} (I : i_Rel k u v) (hk : k + 5 ≤ 2562) : wpX_plan (fun r u' => wpY_plan (fun r' v' => r' = r ∧ i_Rel (k + 5) u' v') v) u := by
  obtain ⟨D, B, M, ic, pl, d, ep, ini, st, e, xs, c, s, nm, os, o1, o2, o3, o4, mp, mn, tk, sn, sb, it, pn, dc, ct, cn, sc, ss, sp, cu, fS, fP, fT, fX, fN, fL, rfl, rfl, hJ⟩ := I
  have hJ0 := hJ
  obtain ⟨⟨hD, hB, hM, hic, hpl, hd, hep⟩, hos, hz, hsn, hsb, hit, hpn, hdc⟩ := hJ
  have hW : hp_WF B D (hp_sl it 0 ic) 0 0 0 0 (fun _ => []) (fun _ => 0) pn dc := ⟨⟨hp_sl_mem (hp_slv hit) ic 0, by rw [hp_sl_len]; omega, fun z => absurd rfl z⟩, ⟨by decide, by decide, by omega, by omega⟩, fun i hi => absurd hi (Nat.not_lt_zero i), hpn, hdc⟩
  have hsub : ∀ m, m < M → (∀ t, t ∈ hp_sl (fun i => sb (m * 4 + i)) 0 (sn m).toNatClampNeg → hp_vt t) ∧ (hp_sl (fun i => sb (m * 4 + i)) 0 (sn m).toNatClampNeg).length ≤ 4 := by
    intro m _
    refine ⟨hp_sl_mem (fun i => hsb (m * 4 + i)) _ 0, ?_⟩
    rw [hp_sl_len]
    have := (hp_nb_c hsn (by decide) m).1
    omega
  obtain ⟨R, hR, gx, gy⟩ := hp_main hM hD hsub (hx_rules (ic := ic) (ini := ini) (st := 0) (xs := ini) (xp := 0) (o1 := o1) (o2 := o2) (o3 := o3) (o4 := o4) (mp := mp) (mn := mn) (tk := tk) (sb := sb) (it := it) hM hD hB hsn) (hy_rules (ic := ic) (ini := ini) (st := st) (qp := nI pl) (qd := nI d) (qe := e) (xs := xs) (xp := nI ep) (mp := mp) (mn := mn) (tk := tk) (sb := sb) (it := it) hM hD hB hsn hos) (2 * B + 1) (hp_sl it 0 ic) ini 0 0 0 0 (fun _ => []) (fun _ => 0) (fun _ => 0) pn dc hW (by omega)
  obtain ⟨g1, g2, g3, g4, g5⟩ := hR
  unfold wpX_plan
  refine hx_disc ?_
  refine hx_start (e := 0) (pl := 0) (d := 0) hic (fun c' ct' cn' hch => ?_)
  refine ⟨2 * B + 2, gx c' ct' cn' sc ss sp hch (fun i hi => absurd hi (Nat.not_lt_zero i)) (2 * B + 2) 0 _ (by omega) (by omega) ?_⟩
  intro c s nm ct cn sc ss sp
  by_cases h1 : R.1 = 1
  · refine br_t h1 ?_
    refine hy_plan hic (by omega) gy ⟨fun _ cu fS fP fT fX fN fL => ⟨rfl, hp_mk (ep := 0) ⟨⟨hD, hB, hM, hic, g1, g2, by decide⟩, hos, hz, hsn, hsb, hit, g4, g5⟩⟩, fun z => absurd h1 z⟩
  · refine br_f h1 ?_
    refine hy_plan hic (by omega) gy ⟨fun z => absurd z h1, fun _ cu fS fP fT fX fN fL => ⟨rfl, hp_mk (pl := 0) (d := 0) (ep := 0) ⟨⟨hD, hB, hM, hic, by decide, by decide, by decide⟩, hos, hz, hsn, hsb, hit, g4, g5⟩⟩⟩
