theorem hq_cell {post : Int32 → Prop} {L p : Nat} {sx : Nat → Int32} (hL : L ≤ 260) (hp : p < 2 ^ 31) (h : ∀ r, post r) : wpL_cell post L sx () (nI p) := by
  by_cases hl : L ≤ p
  · exact br_t (nI_le hl hp) (h 0)
  · exact br_f (nI_ge (by omega) (by omega)) ⟨vp_in_nI (by omega) (by omega), h _⟩
theorem hq_lo {post : Int64 → Prop} {r : Int32} (h : ∀ v, post v) : wpL_lo post () r := h _
theorem hq_hi {post : Int64 → Prop} {r : Int32} (h : ∀ v, post v) : wpL_hi post () r := h _
theorem hq_task {post : Int32 → Prop} {r : Int32} (h : ∀ t : Nat, t < 32 → post (nI t)) : wpL_task post () r := by
  obtain ⟨j, hj, e⟩ := pk_andE r (m := 15) 4 (by decide)
  refine nm_r e ?_
  by_cases h8 : 8 ≤ j
  · obtain ⟨q, hq, e2⟩ := pk_andE (nI j) (m := 3) 2 (by decide)
    have e3 : (16 : Int32) + (nI j &&& 3) = nI (16 + q) := by rw [e2]; exact nI_add 16 q
    refine br_t (nI_le (a := 8) h8 (by omega)) ?_
    rw [e3]
    exact h (16 + q) (by omega)
  · exact br_f (nI_ge (b := 8) (by omega) (by decide)) (h j (by omega))
theorem hq_nb45 {f : Nat → Int32} (h : hp_nb 4 f) : hp_nb 5 f := fun i => by
  obtain ⟨m, hm, e⟩ := h i
  exact ⟨m, by omega, e⟩
section
variable {D B M : Nat} {ini : Int64} {gn : Int32} {c : Int32} {s : Int64} {o1 o2 o3 o4 mp mn : Nat → Int64} {tk sn sb pn dc ct cn sc : Nat → Int32} {ss : Nat → Int64} {sp : Nat → Int32} {L kc ks : Nat} {sx : Nat → Int32} {post : Int32 → Prop}
theorem hq_357 {IC : Nat} (hL : L ≤ 260) (hD : D ≤ 4) (hB : B ≤ 128) (hM : M ≤ 32) (hIC : IC ≤ 3) (hsn : hp_nb 4 sn) (hsb : hp_nb 32 sb) (hpn : hp_nb 16 pn) (hdc : hp_nb 32 dc) (hp : post 1) : ∀ (k i p : Nat) (it : Nat → Int32), i + k = IC → p + k < 1000 → hp_nb 32 it → wL_law_357 post L sx (nI D) (nI B) ini (nI M) (nI IC) kc ks (k + 1) (nI p) (nI i) (nI D) (nI B) (nI M) (nI i) ini 0 0 0 0 ini 0 c s gn o1 o2 o3 o4 mp mn tk sn sb it pn dc ct cn sc ss sp := by
  intro k
  induction k with
  | zero =>
    intro i p it hi hpb hit
    have hi' : i = IC := by omega
    rw [hi']
    obtain ⟨R, ⟨r1, r2, r3, r4, r5⟩, hst, hdl, hrep, hPL⟩ := hq_plan (D := D) (B := B) (M := M) (ic := IC) ini o1 o2 o3 o4 mp mn tk hM (by omega) (by omega) (by omega) (hq_nb45 hsn) hsb hit
    have n1 : ¬ R.1 < 1 := by rcases hst with e | e | e <;> (rw [e]; decide)
    have n3 : ¬ 3 < R.1 := by rcases hst with e | e | e <;> (rw [e]; decide)
    refine br_t (nI_le (Nat.le_refl _) (by omega)) (hPL _ _ _ _ _ _ _ _ _ _ _ _ _ _ _ _ _ hpn hdc ?_ ?_)
    · intro h1 c s gn ct cn sc ss sp pn dc a1 a2 a3 a4
      refine br_f n1 (br_f n3 (hq_i0 (br_t rfl (hq_i3 (br_f (nI_pos (by omega)) (br_t (nI_le r3 (by omega)) (hq_i1 (hq_i2 (br_t h1 (br_f (nI_pos (by omega)) (br_f (nI_nlt (a := 32) r1 (by decide)) (br_f (nI_pos (by omega)) (br_t (nI_le hdl (by omega)) ⟨IC + 1, ?_⟩)))))))))))))
      exact hq_536 hPL h1 r1 (by omega) hM hIC hsn hsb hit a1 a2 (hq_rep_c a3 a4 _ _ _ _ _ (hrep h1)) hp IC 0 (Nat.zero_add _)
    · intro h1 c s gn ct cn sc ss sp pn dc
      exact br_f n1 (br_f n3 (hq_i0 (br_t rfl (hq_i3 (br_f (nI_pos (by omega)) (br_t (nI_le r3 (by omega)) (hq_i1 (hq_i2 (br_f h1 (br_t rfl (br_t rfl (hq_exn h1 (br_t rfl (br_t rfl hp))))))))))))))
  | succ k ih =>
    intro i p it hi hpb hit
    refine br_f (nI_ge (by omega) (by omega)) (nm_r (nI_1 p) (hq_cell hL (by omega) (fun r => hq_task (fun t ht => hq_ai ht (by omega) (br_f hp_1n0 (nm_r (nI_1 i) (ih (i + 1) (p + 1) (upd it i (nI t)) (by omega) (by omega) (hp_nb_u hit i ⟨t, ht, rfl⟩))))))))
theorem hq_296 {mc i ns n : Nat} (hL : L ≤ 260) (hi : i < 8) (hns : ns < 4) : ∀ (k j p : Nat) (sn sb : Nat → Int32), j + k = ns → p + k < 1000 → sn i = nI j → hp_nb 4 sn → hp_nb 32 sb → (∀ q, i + 1 ≤ q → sn q = 0) → (∀ (p' : Nat) (sn' sb' : Nat → Int32), p' ≤ p + k → hp_nb 4 sn' → hp_nb 32 sb' → (∀ q, i + 1 ≤ q → sn' q = 0) → wL_law_203 post L sx (nI D) (nI B) ini (nI mc) kc ks n (nI p') (nI (i + 1)) (nI D) (nI B) (nI (i + 1)) 0 ini 0 0 0 0 ini 0 c s gn o1 o2 o3 o4 mp mn tk sn' sb' (fun _ => 0) pn dc ct cn sc ss sp) → wL_law_296 post L sx (wL_law_203 post L sx (nI D) (nI B) ini (nI mc) kc ks n) (nI D) (nI B) ini (nI mc) (nI i) (nI ns) kc ks (k + 1) (nI p) (nI j) (nI D) (nI B) (nI (i + 1)) 0 ini 0 0 0 0 ini 0 c s gn o1 o2 o3 o4 mp mn tk sn sb (fun _ => 0) pn dc ct cn sc ss sp := by
  intro k
  induction k with
  | zero =>
    intro j p sn sb hj hpb hsi hsn hsb hz h
    exact br_t (nI_le (by omega) (by omega)) (nm_r (nI_1 i) (h p sn sb (Nat.le_refl _) hsn hsb hz))
  | succ k ih =>
    intro j p sn sb hj hpb hsi hsn hsb hz h
    refine br_f (nI_ge (by omega) (by omega)) (nm_r (nI_1 p) (hq_cell hL (by omega) (fun r => hq_task (fun t ht => hq_as (ic := 0) (by omega) (Nat.lt_succ_self i) ht hsi (by omega) (br_f hp_1n0 (nm_r (nI_1 j) ?_))))))
    refine ih (j + 1) (p + 1) _ _ (by omega) (by omega) pk_us (hp_nb_u hsn i ⟨j + 1, by omega, rfl⟩) (hp_nb_u hsb _ ⟨t, ht, rfl⟩) (fun q hq => (pk_un (by omega)).trans (hz q hq)) ?_
    intro p' sn' sb' hp' g1 g2 g3
    exact h p' sn' sb' (by omega) g1 g2 g3
theorem hq_203 {mc : Nat} (hL : L ≤ 260) (hD : D ≤ 4) (hB : B ≤ 128) (hmc : mc ≤ 8) (hpn : hp_nb 16 pn) (hdc : hp_nb 32 dc) (hp : post 1) : ∀ (k i p : Nat) (mp mn : Nat → Int64) (tk sn sb : Nat → Int32), i + k = mc → p + 5 * k < 500 → hp_nb 4 sn → hp_nb 32 sb → (∀ q, i ≤ q → sn q = 0) → wL_law_203 post L sx (nI D) (nI B) ini (nI mc) kc ks (k + 1) (nI p) (nI i) (nI D) (nI B) (nI i) 0 ini 0 0 0 0 ini 0 c s gn o1 o2 o3 o4 mp mn tk sn sb (fun _ => 0) pn dc ct cn sc ss sp := by
  intro k
  induction k with
  | zero =>
    intro i p mp mn tk sn sb hi hpb hsn hsb hz
    have hi' : i = mc := by omega
    rw [hi']
    refine br_t (nI_le (Nat.le_refl _) (by omega)) (nm_r (nI_1 p) (hq_cell hL (by omega) (fun r => ⟨by decide, ?_⟩)))
    obtain ⟨a, ha, ea⟩ := pk_andE r (m := 3) 2 (by decide)
    have e1 : (1 : Int32) + ((r &&& 3) - (r &&& 3) / 3 * 3) = nI (1 + a % 3) := by
      rw [ea, show (3 : Int32) = nI 3 from rfl, pk_rem (by omega) (by decide) (by decide)]
      exact nI_add 1 (a % 3)
    exact nm_r e1 ⟨1 + a % 3 + 1, hq_357 hL hD hB (by omega) (by omega) hsn hsb hpn hdc hp (1 + a % 3) 0 (p + 1) (fun _ => 0) (Nat.zero_add _) (by omega) (hp_nb0 32 (by decide))⟩
  | succ k ih =>
    intro i p mp mn tk sn sb hi hpb hsn hsb hz
    refine br_f (nI_ge (by omega) (by omega)) (nm_r (nI_1 p) (hq_cell hL (by omega) (fun r => ?_)))
    obtain ⟨a, ha, ea⟩ := pk_andE r (m := 3) 2 (by decide)
    have e1 : (16 : Int32) + (r &&& 3) = nI (16 + a) := by rw [ea]; exact nI_add 16 a
    rw [e1]
    refine hq_am (ic := 0) (by omega) (by omega) (by omega) (br_t rfl (nm_r (nI_1 (p + 1)) (hq_cell hL (by omega) (fun r2 => hq_lo (fun v => hq_set4 (ic := 0) (by omega) (Nat.lt_succ_self i) (br_f hp_1n0 (hq_hi (fun v2 => hq_set5 (ic := 0) (by omega) (Nat.lt_succ_self i) (br_f hp_1n0 ?_)))))))))
    obtain ⟨ns, hns, ens⟩ := pk_andE (r.toUInt32 >>> ((2 : Int32).toUInt32 &&& Int32.toUInt32 31)).toInt32 (m := 3) 2 (by decide)
    refine nm_r ens ⟨ns + 1, hq_296 hL (by omega) (by omega) ns 0 (p + 2) sn sb (Nat.zero_add _) (by omega) (hz i (Nat.le_refl i)) hsn hsb (fun q hq => hz q (by omega)) ?_⟩
    intro p' sn' sb' hp' g1 g2 g3
    exact ih (i + 1) p' _ _ _ sn' sb' (by omega) (by omega) g1 g2 g3
theorem hq_43 (hL : L ≤ 260) (hD : D ≤ 4) (hB : B ≤ 128) (hpn : hp_nb 16 pn) (hdc : hp_nb 32 dc) (hp : post 1) : ∀ (k i p : Nat) (o1 o2 o3 o4 : Nat → Int64), i + k = 8 → p + 2 * k < 100 → wL_law_43 post L sx (nI D) (nI B) kc ks (k + 1) (nI p) (nI i) (nI D) (nI B) 0 0 0 0 0 0 0 0 0 c s gn o1 o2 o3 o4 mp mn tk (fun _ => 0) (fun _ => 0) (fun _ => 0) pn dc ct cn sc ss sp := by
  intro k
  induction k with
  | zero =>
    intro i p o1 o2 o3 o4 hi hpb
    have hi' : i = 8 := by omega
    rw [hi']
    refine br_t (nI_le (a := 8) (Nat.le_refl _) (by decide)) (nm_r (nI_1 p) (hq_cell hL (by omega) (fun r => nm_e (hq_set6 (M := 0) (ic := 0) (br_f hp_1n0 (nm_r (nI_1 (p + 1)) (hq_cell hL (by omega) (fun r2 => ?_))))))))
    obtain ⟨a, ha, ea⟩ := pk_andE r2 (m := 7) 3 (by decide)
    have e1 : (1 : Int32) + (r2 &&& 7) = nI (1 + a) := by rw [ea]; exact nI_add 1 a
    exact nm_r e1 ⟨1 + a + 1, hq_203 hL hD hB (by omega) hpn hdc hp (1 + a) 0 (p + 2) mp mn tk (fun _ => 0) (fun _ => 0) (Nat.zero_add _) (by omega) (hp_nb0 4 (by decide)) (hp_nb0 32 (by decide)) (fun _ _ => rfl)⟩
  | succ k ih =>
    intro i p o1 o2 o3 o4 hi hpb
    have hi16 : i < 16 := by omega
    refine br_f (nI_ge (b := 8) (by omega) (by decide)) (nm_r (nI_1 p) (hq_cell hL (by omega) (fun r => nm_r (nI_1 (p + 1)) (hq_cell hL (by omega) (fun r2 => hq_lo (fun v => ?_))))))
    refine hq_set0 (M := 0) (ic := 0) hi16 (br_f hp_1n0 (hq_hi (fun v2 => ?_)))
    refine hq_set1 (M := 0) (ic := 0) hi16 (br_f hp_1n0 ?_)
    refine hq_set2 (M := 0) (ic := 0) hi16 (br_f hp_1n0 ?_)
    refine hq_set3 (M := 0) (ic := 0) hi16 (br_f hp_1n0 (nm_r (nI_1 i) ?_))
    exact ih (i + 1) (p + 2) _ _ _ _ (by omega) (by omega)
end
theorem hq_clamp {post : Int32 → Prop} {a b : Nat} (h1 : 1 ≤ a) (h2 : a ≤ b) (hb : b < 2 ^ 31) (hp : post (nI a)) : wpX_clamp post () (nI a) (nI b) := br_t (nI_le (a := 1) h1 (by omega)) (br_t (nI_le h2 hb) hp)
theorem i_vc (xs : Nat → Int32) (L : Nat) (hL : L ≤ 260) : wpL_law (fun r => r = 1) L xs := by
  refine nm_r (show (0 : Int32) + 1 = nI 1 by decide) ?_
  refine hq_cell (p := 0) hL (by decide) (fun r => ?_)
  obtain ⟨a, ha, ea⟩ := pk_andE r (m := 3) 2 (by decide)
  have e1 : (1 : Int32) + (r &&& 3) = nI (1 + a) := by rw [ea]; exact nI_add 1 a
  refine nm_r e1 (nm_r (nI_1 1) (hq_cell hL (by decide) (fun r2 => ?_)))
  obtain ⟨b, hb, eb⟩ := pk_andE r2 (m := 127) 7 (by decide)
  have e2 : (1 : Int32) + (r2 &&& 127) = nI (1 + b) := by rw [eb]; exact nI_add 1 b
  refine nm_r e2 ⟨17, 568, by decide, by decide, ?_⟩
  refine ⟨by decide, by decide, by decide, by decide, by decide, by decide, by decide, by decide, by decide, by decide, by decide, by decide, by decide, by decide, by decide, by decide, by decide, by decide, by decide, by decide, by decide, by decide, by decide, by decide, by decide, by decide, by decide, by decide, by decide, by decide, by decide, by decide, by decide, by decide, ?_⟩
  refine hq_clamp (b := 16) (by omega) (by omega) (by decide) (hq_clamp (b := 1024) (by omega) (by omega) (by decide) ⟨9, ?_⟩)
  exact hq_43 (post := fun r => r = 1) (D := 1 + a) (B := 1 + b) hL (by omega) (by omega) (hp_nb0 16 (by decide)) (hp_nb0 32 (by decide)) rfl 8 0 2 _ _ _ _ (by decide) (by decide)
