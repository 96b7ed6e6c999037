section
variable (M : Nat) (tk : Nat → Int32) (sb : Nat → List Int32) (ok : Int64 → Nat → Prop) (ef : Int64 → Nat → Int64) (mk : Int64 → Nat → Prop)
def hq_rep (n dl : Nat) (pn dc : Nat → Int32) : Nat → List Int32 → Int64 → Nat → Nat → Prop
  | 0, L, _, pi, di => L = [] ∧ pi = n ∧ di = dl
  | f + 1, L, s, pi, di => ∃ t L', L = t :: L' ∧ ((t < 16 ∧ pi < n ∧ pn pi = t ∧ ok s t.toNatClampNeg ∧ hq_rep n dl pn dc f L' (ef s t.toNatClampNeg) (pi + 1) di) ∨ (¬ t < 16 ∧ di < dl ∧ ∃ m : Nat, m < M ∧ dc di = nI m ∧ tk m = t ∧ mk s m ∧ hq_rep n dl pn dc f (sb m ++ L') s pi (di + 1)))
def hq_pa (L0 : List Int32) (ini : Int64) (L : List Int32) (s : Int64) (pl d : Nat) (pn dc : Nat → Int32) : Prop := ∀ (n dl : Nat) (pn' dc' : Nat → Int32), pl ≤ n → d ≤ dl → (∀ i, i < pl → pn' i = pn i) → (∀ i, i < d → dc' i = dc i) → ∀ f, hq_rep M tk sb ok ef mk n dl pn' dc' f L s pl d → hq_rep M tk sb ok ef mk n dl pn' dc' (f + pl + d) L0 ini 0 0
def hq_PG (D : Nat) (L0 : List Int32) (ini : Int64) : hp_G := fun R _ L s pl _ _ d FL FS FP pn dc =>
  hq_pa M tk sb ok ef mk L0 ini L s pl d pn dc → hq_mo FP d pl → (∀ i, i < d → hq_pa M tk sb ok ef mk L0 ini (FL i) (FS i) (FP i) i pn dc) → (R.1 = 1 ∨ R.1 = 2 ∨ R.1 = 3) ∧ R.2.2.1 ≤ D ∧ (R.1 = 1 → hq_rep M tk sb ok ef mk R.2.1 R.2.2.1 R.2.2.2.2.1 R.2.2.2.2.2 (R.2.1 + R.2.2.1) L0 ini 0 0)
end
theorem hp_2n1 : ¬ (2 : Int32) = 1 := by decide
theorem hp_3n1 : ¬ (3 : Int32) = 1 := by decide
section
variable {B D M : Nat} {tk : Nat → Int32} {sb : Nat → List Int32} {ok : Int64 → Nat → Prop} {ef : Int64 → Nat → Int64} {mk : Int64 → Nat → Prop} {L0 : List Int32} {ini : Int64}
theorem hq_pa0 {pn dc : Nat → Int32} : hq_pa M tk sb ok ef mk L0 ini L0 ini 0 0 pn dc := fun _ _ _ _ _ _ _ _ _ h => h
theorem hq_pa_c {L : List Int32} {s : Int64} {pl d : Nat} {pn dc pn2 dc2 : Nat → Int32} (h : hq_pa M tk sb ok ef mk L0 ini L s pl d pn dc) (h1 : ∀ i, i < pl → pn2 i = pn i) (h2 : ∀ i, i < d → dc2 i = dc i) : hq_pa M tk sb ok ef mk L0 ini L s pl d pn2 dc2 := fun n dl pn' dc' a b c e => h n dl pn' dc' a b (fun i hi => (c i hi).trans (h1 i hi)) (fun i hi => (e i hi).trans (h2 i hi))
theorem hq_pa_op {t : Int32} {L : List Int32} {s : Int64} {pl d : Nat} {pn dc : Nat → Int32} (h : hq_pa M tk sb ok ef mk L0 ini (t :: L) s pl d pn dc) (h16 : t < 16) (hok : ok s t.toNatClampNeg) : hq_pa M tk sb ok ef mk L0 ini L (ef s t.toNatClampNeg) (pl + 1) d (upd pn pl t) dc := by
  intro n dl pn' dc' h1 h2 h3 h4 f hr
  have h5 := h n dl pn' dc' (by omega) h2 (fun i hi => (h3 i (by omega)).trans (pk_un (by omega))) h4 (f + 1) ⟨t, L, rfl, Or.inl ⟨h16, by omega, (h3 pl (by omega)).trans pk_us, hok, hr⟩⟩
  rw [show f + (pl + 1) + d = f + 1 + pl + d by omega]
  exact h5
theorem hq_pa_app {t : Int32} {L : List Int32} {s : Int64} {pl d m : Nat} {pn dc : Nat → Int32} (h : hq_pa M tk sb ok ef mk L0 ini (t :: L) s pl d pn dc) (h16 : ¬ t < 16) (hm : m < M) (ht : tk m = t) (hmk : mk s m) : hq_pa M tk sb ok ef mk L0 ini (sb m ++ L) s pl (d + 1) pn (upd dc d (nI m)) := by
  intro n dl pn' dc' h1 h2 h3 h4 f hr
  have h5 := h n dl pn' dc' h1 (by omega) h3 (fun i hi => (h4 i (by omega)).trans (pk_un (by omega))) (f + 1) ⟨t, L, rfl, Or.inr ⟨h16, by omega, m, hm, (h4 d (by omega)).trans pk_us, ht, hmk, hr⟩⟩
  rw [show f + pl + (d + 1) = f + 1 + pl + d by omega]
  exact h5
theorem hq_rules : hp_Rules B D M tk sb ok ef mk (hq_PG M tk sb ok ef mk D L0 ini) := by
  refine ⟨?_, ?_, ?_, ?_, ?_, ?_, ?_, ?_, ?_, ?_⟩
  · intro k s pl nm e d FL FS FP pn dc hW hp mo hf
    refine ⟨Or.inl rfl, hW.2.1.2.2.2, fun _ => ?_⟩
    have h := hp pl d pn dc (Nat.le_refl _) (Nat.le_refl _) (fun _ _ => rfl) (fun _ _ => rfl) 0 ⟨rfl, rfl, rfl⟩
    rw [Nat.zero_add] at h
    exact h
  · intro k t L s pl nm e d FL FS FP pn dc hW h16 hb hp mo hf
    exact ⟨Or.inr (Or.inr rfl), hW.2.1.2.2.2, fun z => absurd z hp_3n1⟩
  · intro R k t L s pl nm e d FL FS FP pn dc hW h16 he hpl hok hG hp mo hf
    exact hG (hq_pa_op hp h16 hok) (hq_mo_op mo) (fun i hi => hq_pa_c (hf i hi) (fun j hj => pk_un (by have := mo.1 i hi; omega)) (fun _ _ => rfl))
  · intro k t L s pl nm e FL FS FP pn dc hW h16 he hok hp mo hf
    exact ⟨Or.inr (Or.inl rfl), Nat.zero_le D, fun z => absurd z hp_2n1⟩
  · intro R k t L s pl nm e d FL FS FP pn dc hW h16 he hok hG hp mo hf
    exact hG (hf d (Nat.lt_succ_self d)) (hq_mo_bk mo) (fun i hi => hf i (by omega))
  · intro k t L s pl nm e FL FS FP pn dc hW h16 hnf hp mo hf
    exact ⟨Or.inr (Or.inl rfl), Nat.zero_le D, fun z => absurd z hp_2n1⟩
  · intro R k t L s pl nm e d FL FS FP pn dc hW h16 hnf hG hp mo hf
    exact hG (hf d (Nat.lt_succ_self d)) (hq_mo_bk mo) (fun i hi => hf i (by omega))
  · intro k t L s pl nm e d m FL FS FP pn dc hW h16 hm hfs hb hp mo hf
    exact ⟨Or.inr (Or.inr rfl), hW.2.1.2.2.2, fun z => absurd z hp_3n1⟩
  · intro R k t L s pl nm e d m FL FS FP pn dc hW h16 hm hfs he hdD hok hG hp mo hf
    refine hG (hq_pa_app hp h16 hm hfs.2.1 hok) (hq_mo_app mo) (fun i hi => ?_)
    by_cases hid : i = d
    · subst hid
      rw [hp_us, hp_us, hp_us]
      exact hq_pa_c hp (fun _ _ => rfl) (fun j hj => pk_un (by omega))
    · rw [hp_un hid, hp_un hid, hp_un hid]
      exact hq_pa_c (hf i (by omega)) (fun _ _ => rfl) (fun j hj => pk_un (by omega))
  · intro R k t L s pl nm e d m FL FS FP pn dc hW h16 hm hfs he hok hG hp mo hf
    exact hG hp mo hf
end
