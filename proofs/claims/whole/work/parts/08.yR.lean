theorem hp_ne {a b : Nat} (h : a < b) (hb : b ≤ 1024) : ¬ nI a = nI b := fun z => absurd ((nI_eq (by omega) (by omega)).mp z) (by omega)
section
variable {D B M ic : Nat} {ini : Int64} {st qp qd qe : Int32} {xs : Int64} {xp : Int32} {os o1 o2 o3 o4 mp mn : Nat → Int64} {tk sn sb it : Nat → Int32}
theorem hy_os {t : Int32} {j : Nat} (ht : t = nI j) (hj : j < 16) (hos : ∀ i, i < 16 → os i = o1 i ∧ os (16 + i) = o2 i ∧ os (32 + i) = o3 i ∧ os (48 + i) = o4 i) : (vp_in t 64 ∧ vp_in (16 + t) 64 ∧ vp_in (32 + t) 64 ∧ vp_in (48 + t) 64) ∧ os t.toNatClampNeg = o1 t.toNatClampNeg ∧ os (16 + t).toNatClampNeg = o2 t.toNatClampNeg ∧ os (32 + t).toNatClampNeg = o3 t.toNatClampNeg ∧ os (48 + t).toNatClampNeg = o4 t.toNatClampNeg := by
  subst ht
  have h16 : (16 : Int32) + nI j = nI (16 + j) := nI_add 16 j
  have h32 : (32 : Int32) + nI j = nI (32 + j) := nI_add 32 j
  have h48 : (48 : Int32) + nI j = nI (48 + j) := nI_add 48 j
  obtain ⟨a1, a2, a3, a4⟩ := hos j hj
  rw [h16, h32, h48, nI_clamp (by omega), nI_clamp (by omega), nI_clamp (by omega), nI_clamp (by omega)]
  exact ⟨⟨vp_in_nI (by omega) (by decide), vp_in_nI (by omega) (by decide), vp_in_nI (by omega) (by decide), vp_in_nI (by omega) (by decide)⟩, a1, a2, a3, a4⟩
theorem hy_R1 : hp_R1 B D (hp_YG D B M ic ini st qp qd qe xs xp os mp mn tk sn sb it) := by
  intro k s pl nm e d FL FS FP pn dc hW y2 y3 y5 y6 y7 y8 y9 cu fS fP fT fX fN fL hR n x post hn hx hp
  obtain ⟨hf, hR⟩ := hR
  obtain ⟨n, rfl⟩ : ∃ n', n = n' + 2 := ⟨n - 2, by omega⟩
  rcases hR with ⟨r1, r2, r3, r4, r5, r6, r7, r8⟩ | ⟨r1, r2, r3, r4⟩
  · subst r1 r2 r3 r4 r5 r6 r7
    exact br_f (nI_ge (b := 100000) (by omega) (by decide)) (br_f hp_1n0 (br_t rfl (br_f (nI_nlt (a := 0) (b := 0) (Nat.le_refl 0) (by decide)) (nm_r (nI_1 x) (hy_end1 (hp.1 rfl cu fS fP fT fX fN fL))))))
  · obtain ⟨t', L', h1, _⟩ := hW.1.2.2 r1
    exact absurd h1 (by simp)
theorem hy_R2 (hD : D ≤ 16) : hp_R2 B D (hp_YG D B M ic ini st qp qd qe xs xp os mp mn tk sn sb it) := by
  intro k t L s pl nm e d FL FS FP pn dc hW h16 hb y2 y3 y5 y6 y7 y8 y9 cu fS fP fT fX fN fL hR n x post hn hx hp
  obtain ⟨hf, hR⟩ := hR
  obtain ⟨n, rfl⟩ : ∃ n', n = n' + 2 := ⟨n - 2, by omega⟩
  have hdD : d ≤ D := hW.2.1.2.2.2
  have hlen : (t :: L).length ≤ 8 + 3 * d := hW.1.2.1
  have hpos : 0 < (t :: L).length := Nat.succ_pos _
  rcases hR with ⟨r1, r2, r3, r4, r5, r6, r7, r8⟩ | ⟨r1, r2, r3, r4⟩
  · subst r1 r2 r3 r4 r5 r6 r7
    exact br_f (nI_ge (b := 100000) (by omega) (by decide)) (br_f hp_1n0 (br_t rfl (br_t (nI_lt (a := 0) hpos (by omega)) (nm_r r8.1 (br_f (fun z => Int32.not_lt.mpr z h16) (br_t (congrArg nI hb) (nm_r (nI_1 x) (hy_end0 hp_3n1 (hp.2 hp_3n1 cu fS fP fT fX fN fL)))))))))
  · exact absurd (hp_wf_nm hW h16) r1
theorem hy_R3 (hD : D ≤ 16) (hB : B ≤ 1024) (hos : ∀ i, i < 16 → os i = o1 i ∧ os (16 + i) = o2 i ∧ os (32 + i) = o3 i ∧ os (48 + i) = o4 i) : hp_R3 B D (fun s j => hp_ap s (o1 j) (o2 j)) (fun s j => (s &&& (o4 j ^^^ (-1))) ||| o3 j) (hp_YG D B M ic ini st qp qd qe xs xp os mp mn tk sn sb it) := by
  intro R k t L s pl nm e d FL FS FP pn dc hW h16 he hpl hok hG y2 y3 y5 y6 y7 y8 y9 cu fS fP fT fX fN fL hR n x post hn hx hp
  obtain ⟨hf, hR⟩ := hR
  obtain ⟨n, rfl⟩ : ∃ n', n = n' + 1 := ⟨n - 1, by omega⟩
  have hdD : d ≤ D := hW.2.1.2.2.2
  have hlen : (t :: L).length ≤ 8 + 3 * d := hW.1.2.1
  have hpos : 0 < (t :: L).length := Nat.succ_pos _
  obtain ⟨j, hj, ht⟩ := hp_vt_lt (hW.1.1 t List.mem_cons_self) h16
  obtain ⟨⟨v1, v2, v3, v4⟩, a1, a2, a3, a4⟩ := hy_os ht hj hos
  rcases hR with ⟨r1, r2, r3, r4, r5, r6, r7, r8⟩ | ⟨r1, r2, r3, r4⟩
  · subst r1 r2 r3 r4 r5 r6 r7
    have hlc : (t :: L).length = L.length + 1 := rfl
    have hok' : hp_ap y3 (os t.toNatClampNeg) (os (16 + t).toNatClampNeg) := by rw [a1, a2]; exact hok
    have e5 : (y3 &&& (os (48 + t).toNatClampNeg ^^^ (-1))) ||| os (32 + t).toNatClampNeg = (y3 &&& (o4 t.toNatClampNeg ^^^ (-1))) ||| o3 t.toNatClampNeg := by rw [a3, a4]
    have e6 : upd pn (nI pl).toNatClampNeg t = upd pn pl t := by rw [nI_clamp (by omega)]
    refine br_f (nI_ge (b := 100000) (by omega) (by decide)) (br_f hp_1n0 (br_t rfl (br_t (nI_lt (a := 0) hpos (by omega)) (nm_r r8.1 (br_f (fun z => Int32.not_lt.mpr z h16) (br_f (hp_ne he hB) (nm_r (nI_1 e) ⟨v1, v2, ?_⟩)))))))
    refine hy_ap_t hok' (br_f hp_1n0 (br_f (nI_ge (b := 32) hpl (by decide)) ⟨v4, v3, nm_r e5 ⟨vp_in_nI hpl (by decide), nm_r e6 (nm_r (nI_1 pl) ⟨L.length + 1, ?_⟩)⟩⟩))
    refine hy_202 (cu0 := cu) (l := L.length) (by omega) ?_ L.length 0 cu (by omega) (fun j hj => absurd hj (Nat.not_lt_zero j)) (fun j _ => rfl)
    intro cu' h1
    refine hG y2 _ _ _ _ _ _ cu' fS fP fT fX fN fL ⟨hf, Or.inl ⟨rfl, rfl, rfl, rfl, rfl, rfl, rfl, ?_⟩⟩ n (x + 1) post (by omega) (by omega) hp
    refine hp_ar_eq L 1 0 (fun j hj => ?_) r8.2
    rw [Nat.zero_add, h1 j hj, Nat.add_comm]
  · exact absurd (hp_wf_nm hW h16) r1
theorem hy_opf {n x e pl d : Nat} {y2 t : Int32} {s : Int64} {L : List Int32} {post : Int32 → SY → Prop} {pn dc cu : Nat → Int32} {fS : Nat → Int64} {fP fT fX fN fL : Nat → Int32} {j : Nat} (hB : B ≤ 1024) (hx : x < 100000) (hlen : (t :: L).length < 64) (ht : t = nI j) (hj : j < 16) (h16 : t < 16) (he : e < B) (hpl : pl ≤ 32) (hos : ∀ i, i < 16 → os i = o1 i ∧ os (16 + i) = o2 i ∧ os (32 + i) = o3 i ∧ os (48 + i) = o4 i) (hn : ¬ (pl < 32 ∧ hp_ap s (o1 t.toNatClampNeg) (o2 t.toNatClampNeg))) (hcu : hp_ar cu 0 (t :: L)) (hp : wY_plan_63 post (nI M) (nI ic) ini (nI D) (nI B) st qp qd qe xs xp n (nI (e + 1)) y2 s (nI (t :: L).length) (nI pl) (nI d) (nI d) 1 1 (nI (x + 1)) os tk mp mn sb sn it pn dc cu fS fP fT fX fN fL) : wY_plan_63 post (nI M) (nI ic) ini (nI D) (nI B) st qp qd qe xs xp (n + 1) (nI e) y2 s (nI (t :: L).length) (nI pl) (nI d) (nI d) 0 1 (nI x) os tk mp mn sb sn it pn dc cu fS fP fT fX fN fL := by
  have hpos : 0 < (t :: L).length := Nat.succ_pos _
  obtain ⟨⟨v1, v2, v3, v4⟩, a1, a2, a3, a4⟩ := hy_os ht hj hos
  refine br_f (nI_ge (b := 100000) (by omega) (by decide)) (br_f hp_1n0 (br_t rfl (br_t (nI_lt (a := 0) hpos (by omega)) (nm_r hcu.1 (br_f (fun z => Int32.not_lt.mpr z h16) (br_f (hp_ne he hB) (nm_r (nI_1 e) ⟨v1, v2, ?_⟩)))))))
  by_cases hap : hp_ap s (o1 t.toNatClampNeg) (o2 t.toNatClampNeg)
  · have hap' : hp_ap s (os t.toNatClampNeg) (os (16 + t).toNatClampNeg) := by rw [a1, a2]; exact hap
    exact hy_ap_t hap' (br_f hp_1n0 (br_t (nI_le (a := 32) (by have : ¬ pl < 32 := fun z => hn ⟨z, hap⟩; omega) (by omega)) (nm_r (nI_1 x) hp)))
  · have hap' : ¬ hp_ap s (os t.toNatClampNeg) (os (16 + t).toNatClampNeg) := by rw [a1, a2]; exact hap
    exact hy_ap_f hap' (br_t rfl (nm_r (nI_1 x) hp))
theorem hy_R4 (hB : B ≤ 1024) (hos : ∀ i, i < 16 → os i = o1 i ∧ os (16 + i) = o2 i ∧ os (32 + i) = o3 i ∧ os (48 + i) = o4 i) : hp_R4 B D (fun s j => hp_ap s (o1 j) (o2 j)) (hp_YG D B M ic ini st qp qd qe xs xp os mp mn tk sn sb it) := by
  intro k t L s pl nm e FL FS FP pn dc hW h16 he hok y2 y3 y5 y6 y7 y8 y9 cu fS fP fT fX fN fL hR n x post hn hx hp
  obtain ⟨hf, hR⟩ := hR
  obtain ⟨n, rfl⟩ : ∃ n', n = n' + 3 := ⟨n - 3, by omega⟩
  have hlen : (t :: L).length ≤ 8 + 3 * 0 := hW.1.2.1
  obtain ⟨j, hj, ht⟩ := hp_vt_lt (hW.1.1 t List.mem_cons_self) h16
  rcases hR with ⟨r1, r2, r3, r4, r5, r6, r7, r8⟩ | ⟨r1, r2, r3, r4⟩
  · subst r1 r2 r3 r4 r5 r6 r7
    exact hy_opf hB (by omega) (by omega) ht hj h16 he hW.2.1.1 hos hok r8 (hy_b0 (by omega) (hp.2 hp_2n1 cu fS fP fT fX fN fL))
  · exact absurd (hp_wf_nm hW h16) r1
theorem hy_R5 (hD : D ≤ 16) (hB : B ≤ 1024) (hos : ∀ i, i < 16 → os i = o1 i ∧ os (16 + i) = o2 i ∧ os (32 + i) = o3 i ∧ os (48 + i) = o4 i) : hp_R5 B D (fun s j => hp_ap s (o1 j) (o2 j)) (hp_YG D B M ic ini st qp qd qe xs xp os mp mn tk sn sb it) := by
  intro R k t L s pl nm e d FL FS FP pn dc hW h16 he hok hG y2 y3 y5 y6 y7 y8 y9 cu fS fP fT fX fN fL hR n x post hn hx hp
  obtain ⟨hf, hR⟩ := hR
  obtain ⟨n, rfl⟩ : ∃ n', n = n' + 1 := ⟨n - 1, by omega⟩
  have hdD : d + 1 ≤ D := hW.2.1.2.2.2
  have hlen : (t :: L).length ≤ 8 + 3 * (d + 1) := hW.1.2.1
  obtain ⟨j, hj, ht⟩ := hp_vt_lt (hW.1.1 t List.mem_cons_self) h16
  rcases hR with ⟨r1, r2, r3, r4, r5, r6, r7, r8⟩ | ⟨r1, r2, r3, r4⟩
  · subst r1 r2 r3 r4 r5 r6 r7
    exact hy_opf hB (by omega) (by omega) ht hj h16 he hW.2.1.1 hos hok r8 (hG y2 _ _ _ _ _ _ cu fS fP fT fX fN fL ⟨fun i hi => hf i (by omega), Or.inr ⟨Nat.succ_ne_zero _, rfl, rfl, hf d (Nat.lt_succ_self d)⟩⟩ n (x + 1) post (by omega) (by omega) hp)
  · exact absurd (hp_wf_nm hW h16) r1
theorem hy_hd {fS : Nat → Int64} {fP fT fX fN fL : Nat → Int32} {d pl nm : Nat} {t : Int32} {L : List Int32} {s : Int64} (h : hp_Y1 fS fP fT fX fN fL d (t :: L) s pl nm) : fT d = t := by
  obtain ⟨_, _, ⟨t', L', g1, g2⟩, _, _, _⟩ := h
  injection g1 with h1 h2
  rw [h1]
  exact g2
theorem hy_R6 (hM : M ≤ 32) (hD : D ≤ 16) : hp_R6 B D M tk (hp_YG D B M ic ini st qp qd qe xs xp os mp mn tk sn sb it) := by
  intro k t L s pl nm e FL FS FP pn dc hW h16 hnf
  refine hy_push hD hW h16 ?_
  intro y2 y3 y5 y6 y7 cu fS fP fT fX fN fL hf hY n x post hn hx hp
  obtain ⟨n, rfl⟩ : ∃ n', n = n' + 3 := ⟨n - 3, by omega⟩
  exact hy_bF (by omega) hM hW.2.1.2.1 (by omega) hY.2.2.2.1 (hy_hd hY) hnf (hy_b0 (by omega) (hp.2 hp_2n1 cu fS fP fT fX fN fL))
theorem hy_R7 (hM : M ≤ 32) (hD : D ≤ 16) : hp_R7 B D M tk (hp_YG D B M ic ini st qp qd qe xs xp os mp mn tk sn sb it) := by
  intro R k t L s pl nm e d FL FS FP pn dc hW h16 hnf hG
  refine hy_push hD hW h16 ?_
  intro y2 y3 y5 y6 y7 cu fS fP fT fX fN fL hf hY n x post hn hx hp
  have hdD : d + 1 ≤ D := hW.2.1.2.2.2
  obtain ⟨n, rfl⟩ : ∃ n', n = n' + 1 := ⟨n - 1, by omega⟩
  exact hy_bF (by omega) hM hW.2.1.2.1 (by omega) hY.2.2.2.1 (hy_hd hY) hnf (hG y2 _ _ _ _ _ _ cu fS fP fT fX fN fL ⟨fun i hi => hf i (by omega), Or.inr ⟨Nat.succ_ne_zero _, rfl, rfl, hf d (Nat.lt_succ_self d)⟩⟩ n (x + 1) post (by omega) (by omega) hp)
theorem hy_R8 (hM : M ≤ 32) (hD : D ≤ 16) : hp_R8 B D M tk (hp_YG D B M ic ini st qp qd qe xs xp os mp mn tk sn sb it) := by
  intro k t L s pl nm e d m FL FS FP pn dc hW h16 hm hfs hb
  refine hy_push hD hW h16 ?_
  intro y2 y3 y5 y6 y7 cu fS fP fT fX fN fL hf hY n x post hn hx hp
  have hdD : d ≤ D := hW.2.1.2.2.2
  obtain ⟨n, rfl⟩ : ∃ n', n = n' + 2 := ⟨n - 2, by omega⟩
  refine hy_bT (by omega) hM hm (by omega) hY.2.2.2.1 (hy_hd hY) hfs ?_
  exact br_t (nI_pos' (by omega)) (br_t (congrArg nI hb) (nm_r (nI_1 x) (hy_end0 hp_3n1 (hp.2 hp_3n1 cu fS fP fT fX fN fL))))
theorem hy_Y1u {fS : Nat → Int64} {fP fT fX fN fL : Nat → Int32} {i d pl nm : Nat} {x : Int32} {L : List Int32} {s : Int64} (h : hp_Y1 fS fP fT fX fN fL i L s pl nm) (hne : i ≠ d) : hp_Y1 fS fP fT (upd fX d x) fN fL i L s pl nm := ⟨h.1, h.2.1, h.2.2.1, (pk_un hne).trans h.2.2.2.1, h.2.2.2.2.1, h.2.2.2.2.2⟩
theorem hy_Y1s {fS : Nat → Int64} {fP fT fX fN fL : Nat → Int32} {d pl nm m : Nat} {L : List Int32} {s : Int64} (h : hp_Y1 fS fP fT fX fN fL d L s pl nm) : hp_Y1 fS fP fT (upd fX d (nI m)) fN fL d L s pl m := ⟨h.1, h.2.1, h.2.2.1, pk_us, h.2.2.2.2.1, h.2.2.2.2.2⟩
theorem hy_R10 (hM : M ≤ 32) (hD : D ≤ 16) (hB : B ≤ 1024) : hp_R10 B D M tk (fun s m => hp_ap s (mp m) (mn m)) (hp_YG D B M ic ini st qp qd qe xs xp os mp mn tk sn sb it) := by
  intro R k t L s pl nm e d m FL FS FP pn dc hW h16 hm hfs he hok hG
  refine hy_push hD hW h16 ?_
  intro y2 y3 y5 y6 y7 cu fS fP fT fX fN fL hf hY n x post hn hx hp
  have hdD : d ≤ D := hW.2.1.2.2.2
  obtain ⟨n, rfl⟩ : ∃ n', n = n' + 1 := ⟨n - 1, by omega⟩
  have hcd : (nI d).toNatClampNeg = d := nI_clamp (by omega)
  have hcm : (nI m).toNatClampNeg = m := nI_clamp (by omega)
  have hi : vp_in (nI d) 17 := vp_in_nI (by omega) (by decide)
  have hv : vp_in (nI m) 32 := vp_in_nI (by omega) (by decide)
  have e1 : upd fX (nI d).toNatClampNeg (nI m + 1) = upd fX d (nI (m + 1)) := by rw [hcd, nI_1]
  have hc : wY_plan_63 post (nI M) (nI ic) ini (nI D) (nI B) st qp qd qe xs xp n (nI (e + 1)) y2 y3 y5 y6 y7 (nI (d + 1)) 1 1 (nI (x + 1)) os tk mp mn sb sn it pn dc cu fS fP fT (upd fX d (nI (m + 1))) fN fL := hG y2 y3 y5 y6 y7 _ _ cu fS fP fT _ fN fL ⟨fun i hi => hy_Y1u (hf i hi) (by omega), Or.inr ⟨Nat.succ_ne_zero _, rfl, rfl, hy_Y1s hY⟩⟩ n (x + 1) post (by omega) (by omega) hp
  refine hy_bT (by omega) hM hm (by omega) hY.2.2.2.1 (hy_hd hY) hfs ?_
  refine br_t (nI_pos' (by omega)) (br_f (hp_ne he hB) (nm_r (nI_1 e) ⟨hi, nm_r e1 ⟨hv, hv, hi, ?_⟩⟩))
  by_cases hap : hp_ap s (mp m) (mn m)
  · have hap' : hp_ap (fS (nI d).toNatClampNeg) (mp (nI m).toNatClampNeg) (mn (nI m).toNatClampNeg) := by rw [hcd, hcm, hY.1]; exact hap
    exact hy_ap_t hap' (br_f hp_1n0 (br_t (nI_le (by have : ¬ d < D := fun z => hok ⟨z, hap⟩; omega) (by omega)) (nm_r (nI_1 x) hc)))
  · have hap' : ¬ hp_ap (fS (nI d).toNatClampNeg) (mp (nI m).toNatClampNeg) (mn (nI m).toNatClampNeg) := by rw [hcd, hcm, hY.1]; exact hap
    exact hy_ap_f hap' (br_t rfl (nm_r (nI_1 x) hc))
theorem hy_R9 (hM : M ≤ 32) (hD : D ≤ 16) (hB : B ≤ 1024) (hsn : hp_nb 5 sn) : hp_R9 B D M tk (fun m => hp_sl (fun i => sb (m * 4 + i)) 0 (sn m).toNatClampNeg) (fun s m => hp_ap s (mp m) (mn m)) (hp_YG D B M ic ini st qp qd qe xs xp os mp mn tk sn sb it) := by
  intro R k t L s pl nm e d m FL FS FP pn dc hW h16 hm hfs he hdD hok hG
  refine hy_push hD hW h16 ?_
  intro y2 y3 y5 y6 y7 cu fS fP fT fX fN fL hf hY n x post hn hx hp
  obtain ⟨n, rfl⟩ : ∃ n', n = n' + 1 := ⟨n - 1, by omega⟩
  have hlen : (t :: L).length ≤ 8 + 3 * d := hW.1.2.1
  have hlc : (t :: L).length = L.length + 1 := rfl
  obtain ⟨hs1, hs2⟩ := hp_nb_c hsn (by decide) m
  have hcd : (nI d).toNatClampNeg = d := nI_clamp (by omega)
  have hcm : (nI m).toNatClampNeg = m := nI_clamp (by omega)
  have hi : vp_in (nI d) 17 := vp_in_nI (by omega) (by decide)
  have hv : vp_in (nI m) 32 := vp_in_nI (by omega) (by decide)
  have e1 : upd fX (nI d).toNatClampNeg (nI m + 1) = upd fX d (nI (m + 1)) := by rw [hcd, nI_1]
  have e2 : fS (nI d).toNatClampNeg = s := by rw [hcd]; exact hY.1
  have e3 : fP (nI d).toNatClampNeg = nI pl := by rw [hcd]; exact hY.2.1
  have e4 : sn (nI m).toNatClampNeg = nI (sn m).toNatClampNeg := by rw [hcm]; exact hs2
  have hap' : hp_ap (fS (nI d).toNatClampNeg) (mp (nI m).toNatClampNeg) (mn (nI m).toNatClampNeg) := by rw [hcd, hcm, hY.1]; exact hok
  refine hy_bT (by omega) hM hm (by omega) hY.2.2.2.1 (hy_hd hY) hfs ?_
  refine br_t (nI_pos' (by omega)) (br_f (hp_ne he hB) (nm_r (nI_1 e) ⟨hi, nm_r e1 ⟨hv, hv, hi, ?_⟩⟩))
  refine hy_ap_t hap' (br_f hp_1n0 (br_f (nI_ge hdD (by omega)) ⟨hi, nm_r e2 ⟨hi, nm_r e3 ⟨hv, nm_r e4 ⟨(sn m).toNatClampNeg + 1, ?_⟩⟩⟩⟩))
  refine hy_536 (cnt := (sn m).toNatClampNeg) (by omega) (by omega) ?_ (sn m).toNatClampNeg 0 cu (by omega) (fun j hj => absurd hj (Nat.not_lt_zero j))
  intro cu1 h1
  refine ⟨L.length + 1, hy_575 (l := L.length) (cnt := (sn m).toNatClampNeg) (by omega) (by omega) hY.2.2.2.2.1 ?_ L.length 0 cu1 (by omega) h1 (fun j hj => absurd hj (Nat.not_lt_zero j))⟩
  intro cu2 h2 h3
  refine hG y2 s _ _ _ _ _ cu2 fS fP fT _ fN fL ⟨?_, Or.inl ⟨rfl, rfl, rfl, ?_, rfl, rfl, rfl, ?_⟩⟩ n (x + 1) post (by omega) (by omega) hp
  · intro i hi2
    by_cases hid : i = d
    · subst hid
      rw [hp_us, hp_us, hp_us, pk_us, hcm]
      exact hy_Y1s hY
    · rw [hp_un hid, hp_un hid, hp_un hid, pk_un hid]
      exact hy_Y1u (hf i (by omega)) hid
  · rw [List.length_append, hp_sl_len]
  · refine hp_ar_app _ _ 0 (hp_ar_sl _ 0 0 (fun j hj => ?_)) (hp_ar_eq L (d * 64 + 1) _ (fun j hj => ?_) hY.2.2.2.2.2.2)
    · rw [Nat.zero_add]
      exact h2 j hj
    · rw [hp_sl_len, Nat.zero_add]
      exact h3 j hj
theorem hy_rules (hM : M ≤ 32) (hD : D ≤ 16) (hB : B ≤ 1024) (hsn : hp_nb 5 sn) (hos : ∀ i, i < 16 → os i = o1 i ∧ os (16 + i) = o2 i ∧ os (32 + i) = o3 i ∧ os (48 + i) = o4 i) : hp_Rules B D M tk (fun m => hp_sl (fun i => sb (m * 4 + i)) 0 (sn m).toNatClampNeg) (fun s j => hp_ap s (o1 j) (o2 j)) (fun s j => (s &&& (o4 j ^^^ (-1))) ||| o3 j) (fun s m => hp_ap s (mp m) (mn m)) (hp_YG D B M ic ini st qp qd qe xs xp os mp mn tk sn sb it) :=
  ⟨hy_R1, hy_R2 hD, hy_R3 hD hB hos, hy_R4 hB hos, hy_R5 hD hB hos, hy_R6 hM hD, hy_R7 hM hD, hy_R8 hM hD, hy_R9 hM hD hB hsn, hy_R10 hM hD hB⟩
theorem hx_rules (hM : M ≤ 32) (hD : D ≤ 16) (hB : B ≤ 1024) (hsn : hp_nb 5 sn) : hp_Rules B D M tk (fun m => hp_sl (fun i => sb (m * 4 + i)) 0 (sn m).toNatClampNeg) (fun s j => hp_ap s (o1 j) (o2 j)) (fun s j => (s &&& (o4 j ^^^ (-1))) ||| o3 j) (fun s m => hp_ap s (mp m) (mn m)) (hp_XG D B M ic ini st xs xp o1 o2 o3 o4 mp mn tk sn sb it) :=
  ⟨hx_R1, hx_R2 hB, hx_R3 hB, hx_R4 hB, hx_R5 hB hD, hx_R6 hM, hx_R7 hM hD, hx_R8 hM hB, hx_R9 hM hB hD hsn, hx_R10 hM hB hD⟩
end
