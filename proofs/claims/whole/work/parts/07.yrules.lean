def hp_RY (L : List Int32) (s : Int64) (pl nm d : Nat) (FL : Nat → List Int32) (FS : Nat → Int64) (FP : Nat → Nat) (dc : Nat → Int32) (y3 : Int64) (y5 y6 y7 y8 y9 : Int32) (cu : Nat → Int32) (fS : Nat → Int64) (fP fT fX fN fL : Nat → Int32) : Prop :=
  (∀ i, i < d → hp_Y1 fS fP fT fX fN fL i (FL i) (FS i) (FP i) ((dc i).toNatClampNeg + 1)) ∧
  ((nm = 0 ∧ y9 = 0 ∧ y3 = s ∧ y5 = nI L.length ∧ y6 = nI pl ∧ y7 = nI d ∧ y8 = nI d ∧ hp_ar cu 0 L) ∨ (nm ≠ 0 ∧ y9 = 1 ∧ y8 = nI (d + 1) ∧ hp_Y1 fS fP fT fX fN fL d L s pl nm))
def hp_YF (D B M ic : Nat) (ini : Int64) (os mp mn : Nat → Int64) (tk sn sb it : Nat → Int32) (R : hp_R) (post : Int32 → SY → Prop) : Prop :=
  (R.1 = 1 → ∀ (cu : Nat → Int32) (fS : Nat → Int64) (fP fT fX fN fL : Nat → Int32), post R.1 (nI M, nI ic, ini, nI D, nI B, R.1, nI R.2.1, nI R.2.2.1, nI R.2.2.2.1, ini, 0, os, tk, mp, mn, sb, sn, it, R.2.2.2.2.1, R.2.2.2.2.2, cu, fS, fP, fT, fX, fN, fL)) ∧
  (¬ R.1 = 1 → ∀ (cu : Nat → Int32) (fS : Nat → Int64) (fP fT fX fN fL : Nat → Int32), post R.1 (nI M, nI ic, ini, nI D, nI B, R.1, 0, 0, nI R.2.2.2.1, ini, 0, os, tk, mp, mn, sb, sn, it, R.2.2.2.2.1, R.2.2.2.2.2, cu, fS, fP, fT, fX, fN, fL))
def hp_YG (D B M ic : Nat) (ini : Int64) (st qp qd qe : Int32) (xs : Int64) (xp : Int32) (os mp mn : Nat → Int64) (tk sn sb it : Nat → Int32) : hp_G := fun R k L s pl nm e d FL FS FP pn dc =>
  ∀ (y2 : Int32) (y3 : Int64) (y5 y6 y7 y8 y9 : Int32) (cu : Nat → Int32) (fS : Nat → Int64) (fP fT fX fN fL : Nat → Int32), hp_RY L s pl nm d FL FS FP dc y3 y5 y6 y7 y8 y9 cu fS fP fT fX fN fL → ∀ (n x : Nat) (post : Int32 → SY → Prop), 3 * k < n → x + 3 * k < 100000 → hp_YF D B M ic ini os mp mn tk sn sb it R post → wY_plan_63 post (nI M) (nI ic) ini (nI D) (nI B) st qp qd qe xs xp n (nI e) y2 y3 y5 y6 y7 y8 y9 1 (nI x) os tk mp mn sb sn it pn dc cu fS fP fT fX fN fL
def hp_YB (D B M ic : Nat) (ini : Int64) (st qp qd qe : Int32) (xs : Int64) (xp : Int32) (os mp mn : Nat → Int64) (tk sn sb it : Nat → Int32) : hp_G := fun R k L s pl nm e d FL FS FP pn dc =>
  ∀ (y2 : Int32) (y3 : Int64) (y5 y6 y7 : Int32) (cu : Nat → Int32) (fS : Nat → Int64) (fP fT fX fN fL : Nat → Int32), (∀ i, i < d → hp_Y1 fS fP fT fX fN fL i (FL i) (FS i) (FP i) ((dc i).toNatClampNeg + 1)) → hp_Y1 fS fP fT fX fN fL d L s pl nm → ∀ (n x : Nat) (post : Int32 → SY → Prop), 3 * k + 2 < n → x + 3 * k + 2 < 100000 → hp_YF D B M ic ini os mp mn tk sn sb it R post → wY_plan_63 post (nI M) (nI ic) ini (nI D) (nI B) st qp qd qe xs xp n (nI e) y2 y3 y5 y6 y7 (nI (d + 1)) 1 1 (nI x) os tk mp mn sb sn it pn dc cu fS fP fT fX fN fL
theorem hp_1n0 : ¬ (1 : Int32) = 0 := by decide
theorem hp_2n1 : ¬ (2 : Int32) = 1 := by decide
theorem hp_3n1 : ¬ (3 : Int32) = 1 := by decide
section
variable {D B M ic : Nat} {ini : Int64} {st qp qd qe : Int32} {xs : Int64} {xp : Int32} {os mp mn : Nat → Int64} {tk sn sb it : Nat → Int32}
theorem hy_push {R : hp_R} {k : Nat} {t : Int32} {L : List Int32} {s : Int64} {pl nm e d : Nat} {FL : Nat → List Int32} {FS : Nat → Int64} {FP : Nat → Nat} {pn dc : Nat → Int32} (hD : D ≤ 16) (hW : hp_WF B D (t :: L) pl nm e d FL FP pn dc) (h16 : ¬ t < 16) (hG : hp_YB D B M ic ini st qp qd qe xs xp os mp mn tk sn sb it R k (t :: L) s pl nm e d FL FS FP pn dc) : hp_YG D B M ic ini st qp qd qe xs xp os mp mn tk sn sb it R (k + 1) (t :: L) s pl nm e d FL FS FP pn dc := by
  intro y2 y3 y5 y6 y7 y8 y9 cu fS fP fT fX fN fL hR n x post hn hx hp
  obtain ⟨hf, hR⟩ := hR
  obtain ⟨n, rfl⟩ : ∃ n', n = n' + 1 := ⟨n - 1, by omega⟩
  have hdD : d ≤ D := hW.2.1.2.2.2
  have hlen : (t :: L).length ≤ 8 + 3 * d := hW.1.2.1
  rcases hR with ⟨r1, r2, r3, r4, r5, r6, r7, r8⟩ | ⟨r1, r2, r3, r4⟩
  · subst r1 r2 r3 r4 r5 r6 r7
    have hpos : 0 < (t :: L).length := Nat.succ_pos _
    have hcd : (nI d).toNatClampNeg = d := nI_clamp (by omega)
    have hi : vp_in (nI d) 17 := vp_in_nI (by omega) (by decide)
    have e1 : vp_updL fS (nI d).toNatClampNeg y3 = vp_updL fS d y3 := by rw [hcd]
    have e2 : upd fP (nI d).toNatClampNeg (nI pl) = upd fP d (nI pl) := by rw [hcd]
    have e3 : upd fT (nI d).toNatClampNeg t = upd fT d t := by rw [hcd]
    have e4 : upd fX (nI d).toNatClampNeg 0 = upd fX d 0 := by rw [hcd]
    have e5 : upd fN (nI d).toNatClampNeg (nI (t :: L).length) = upd fN d (nI (t :: L).length) := by rw [hcd]
    refine br_f (nI_ge (b := 100000) (by omega) (by decide)) (br_f hp_1n0 (br_t rfl (br_t (nI_lt (a := 0) hpos (by omega)) (nm_r r8.1 (br_t (Int32.not_lt.mp h16) (br_f (nI_ge (b := 17) (by omega) (by decide)) ⟨hi, nm_r e1 ⟨hi, nm_r e2 ⟨hi, nm_r e3 ⟨hi, nm_r e4 ⟨hi, nm_r e5 ⟨(t :: L).length + 1, ?_⟩⟩⟩⟩⟩⟩))))))
    refine hy_303 (fL0 := fL) (by omega) (by omega) ?_ (t :: L).length 0 fL (by omega) (fun j hj => absurd hj (Nat.not_lt_zero j)) (fun q _ => rfl)
    intro fL' h1 h2
    refine hG y2 y3 _ _ _ cu _ _ _ _ _ fL' ?_ ?_ n (x + 1) post (by omega) (by omega) hp
    · intro i hi2
      have hne : i ≠ d := by omega
      obtain ⟨f1, f2, f3, f4, f5, f6⟩ := hf i hi2
      have hl2 := (hW.2.2.1 i hi2).2.1
      obtain ⟨t', L', g1, g2⟩ := f3
      refine ⟨(pk_uLn hne).trans f1, (pk_un hne).trans f2, ⟨t', L', g1, (pk_un hne).trans g2⟩, (pk_un hne).trans f4, (pk_un hne).trans f5, ?_⟩
      refine hp_ar_eq _ _ _ (fun j hj => ?_) f6
      exact h2 _ (Or.inl (by omega))
    · refine ⟨pk_uLs, pk_us, ⟨t, L, rfl, pk_us⟩, pk_us, pk_us, ?_⟩
      refine hp_ar_eq _ _ _ (fun j hj => ?_) r8
      rw [h1 j hj, Nat.zero_add]
  · subst r2 r3
    exact hG y2 y3 y5 y6 y7 cu fS fP fT fX fN fL hf r4 (n + 1) x post (by omega) (by omega) hp
theorem hy_bT {y1 y2 y5 y6 y7 : Int32} {y3 : Int64} {n x d m nm : Nat} {post : Int32 → SY → Prop} {pn dc cu : Nat → Int32} {fS : Nat → Int64} {fP fT fX fN fL : Nat → Int32} {t : Int32} (hd : d < 17) (hM : M ≤ 32) (hm : m < M) (hx : x < 100000) (hfX : fX d = nI nm) (hfT : fT d = t) (hfs : hp_fs tk t nm m) (hp : wY_plan_429 post (wY_plan_63 post (nI M) (nI ic) ini (nI D) (nI B) st qp qd qe xs xp n) y1 y2 y3 y5 y6 y7 (nI (d + 1)) 1 1 (nI x) (nI d) (nI m) (nI M) (nI ic) ini (nI D) (nI B) st qp qd qe xs xp os tk mp mn sb sn it pn dc cu fS fP fT fX fN fL) : wY_plan_63 post (nI M) (nI ic) ini (nI D) (nI B) st qp qd qe xs xp (n + 1) y1 y2 y3 y5 y6 y7 (nI (d + 1)) 1 1 (nI x) os tk mp mn sb sn it pn dc cu fS fP fT fX fN fL := by
  have e1 : fX (nI d).toNatClampNeg = nI nm := by rw [nI_clamp (by omega)]; exact hfX
  exact br_f (nI_ge (b := 100000) hx (by decide)) (br_f hp_1n0 (br_f hp_1n0 (br_f (nI_ne0 (Nat.succ_pos d) (by omega)) (nm_r (nI_pred d) ⟨vp_in_nI hd (by decide), nm_r e1 ⟨m - nm + 2, hy_383t hd hM hm hfT hfs.2.1 hp (m - nm) nm (by have := hfs.1; omega) hfs.2.2⟩⟩))))
theorem hy_bF {y1 y2 y5 y6 y7 : Int32} {y3 : Int64} {n x d nm : Nat} {post : Int32 → SY → Prop} {pn dc cu : Nat → Int32} {fS : Nat → Int64} {fP fT fX fN fL : Nat → Int32} {t : Int32} (hd : d < 17) (hM : M ≤ 32) (hnm : nm ≤ 32) (hx : x < 100000) (hfX : fX d = nI nm) (hfT : fT d = t) (hnf : ∀ j, nm ≤ j → j < M → tk j ≠ t) (hp : wY_plan_63 post (nI M) (nI ic) ini (nI D) (nI B) st qp qd qe xs xp n y1 y2 y3 y5 y6 y7 (nI d) 1 1 (nI (x + 1)) os tk mp mn sb sn it pn dc cu fS fP fT fX fN fL) : wY_plan_63 post (nI M) (nI ic) ini (nI D) (nI B) st qp qd qe xs xp (n + 1) y1 y2 y3 y5 y6 y7 (nI (d + 1)) 1 1 (nI x) os tk mp mn sb sn it pn dc cu fS fP fT fX fN fL := by
  have e1 : fX (nI d).toNatClampNeg = nI nm := by rw [nI_clamp (by omega)]; exact hfX
  have hp2 : wY_plan_429 post (wY_plan_63 post (nI M) (nI ic) ini (nI D) (nI B) st qp qd qe xs xp n) y1 y2 y3 y5 y6 y7 (nI (d + 1)) 1 1 (nI x) (nI d) (-1) (nI M) (nI ic) ini (nI D) (nI B) st qp qd qe xs xp os tk mp mn sb sn it pn dc cu fS fP fT fX fN fL := br_f (by decide) (nm_r (pk_m1 d) (nm_r (nI_1 x) hp))
  exact br_f (nI_ge (b := 100000) hx (by decide)) (br_f hp_1n0 (br_f hp_1n0 (br_f (nI_ne0 (Nat.succ_pos d) (by omega)) (nm_r (nI_pred d) ⟨vp_in_nI hd (by decide), nm_r e1 ⟨M + 1, hy_383f hd hM hfT hp2 M nm (by omega) hnm hnf⟩⟩))))
theorem hy_b0 {y1 y2 y5 y6 y7 : Int32} {y3 : Int64} {n x : Nat} {post : Int32 → SY → Prop} {pn dc cu : Nat → Int32} {fS : Nat → Int64} {fP fT fX fN fL : Nat → Int32} (hx : x < 100000) (hp : post 2 (nI M, nI ic, ini, nI D, nI B, 2, 0, 0, y1, ini, 0, os, tk, mp, mn, sb, sn, it, pn, dc, cu, fS, fP, fT, fX, fN, fL)) : wY_plan_63 post (nI M) (nI ic) ini (nI D) (nI B) st qp qd qe xs xp (n + 2) y1 y2 y3 y5 y6 y7 (nI 0) 1 1 (nI x) os tk mp mn sb sn it pn dc cu fS fP fT fX fN fL :=
  br_f (nI_ge (b := 100000) hx (by decide)) (br_f hp_1n0 (br_f hp_1n0 (br_t nI_0 (nm_r (nI_1 x) (hy_end0 (by decide) hp)))))
end
