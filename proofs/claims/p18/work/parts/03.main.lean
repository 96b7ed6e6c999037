abbrev hp_R : Type := Int32 × Nat × Nat × Nat × (Nat → Int32) × (Nat → Int32)
abbrev hp_G : Type := hp_R → Nat → List Int32 → Int64 → Nat → Nat → Nat → Nat → (Nat → List Int32) → (Nat → Int64) → (Nat → Nat) → (Nat → Int32) → (Nat → Int32) → Prop
def hp_RG (B : Nat) (R : hp_R) : Prop := R.2.1 ≤ 32 ∧ R.2.2.1 ≤ 16 ∧ R.2.2.2.1 ≤ B ∧ hp_nb 16 R.2.2.2.2.1 ∧ hp_nb 32 R.2.2.2.2.2
def hp_fs (tk : Nat → Int32) (t : Int32) (nm m : Nat) : Prop := nm ≤ m ∧ tk m = t ∧ ∀ j, nm ≤ j → j < m → tk j ≠ t
def hp_WF (B D : Nat) (L : List Int32) (pl nm e d : Nat) (FL : Nat → List Int32) (FP : Nat → Nat) (pn dc : Nat → Int32) : Prop :=
  ((∀ t, t ∈ L → hp_vt t) ∧ L.length ≤ 8 + 3 * d ∧ (nm ≠ 0 → hp_hd L)) ∧ (pl ≤ 32 ∧ nm ≤ 32 ∧ e ≤ B ∧ d ≤ D) ∧
  (∀ i, i < d → (∀ t, t ∈ FL i → hp_vt t) ∧ (FL i).length ≤ 8 + 3 * i ∧ hp_hd (FL i) ∧ FP i ≤ 32) ∧ hp_nb 16 pn ∧ hp_nb 32 dc
theorem hp_wf_nm {B D : Nat} {t : Int32} {L : List Int32} {pl nm e d : Nat} {FL : Nat → List Int32} {FP : Nat → Nat} {pn dc : Nat → Int32} (h : hp_WF B D (t :: L) pl nm e d FL FP pn dc) (h16 : t < 16) : nm = 0 := by
  obtain ⟨⟨w1, w2, w3⟩, ⟨w4, w5, w6, w7⟩, w8, w9, w10⟩ := h
  by_cases hn : nm = 0
  · exact hn
  · obtain ⟨t', L', he, hn'⟩ := w3 hn
    injection he with h1 h2
    rw [h1] at h16
    exact absurd h16 hn'
theorem hp_wf_op {B D : Nat} {t : Int32} {L : List Int32} {pl nm e d : Nat} {FL : Nat → List Int32} {FP : Nat → Nat} {pn dc : Nat → Int32} (h : hp_WF B D (t :: L) pl nm e d FL FP pn dc) (h16 : t < 16) (he : e < B) (hp : pl < 32) : hp_WF B D L (pl + 1) nm (e + 1) d FL FP (upd pn pl t) dc := by
  have hn := hp_wf_nm h h16
  obtain ⟨⟨w1, w2, w3⟩, ⟨w4, w5, w6, w7⟩, w8, w9, w10⟩ := h
  rw [List.length_cons] at w2
  refine ⟨⟨fun x hx => w1 x (List.mem_cons_of_mem t hx), by omega, fun z => absurd hn z⟩, ⟨by omega, w5, by omega, w7⟩, w8, hp_nb_u w9 pl (hp_vt_lt (w1 t List.mem_cons_self) h16), w10⟩
theorem hp_wf_back {B D : Nat} {L : List Int32} {pl nm e e' d : Nat} {FL : Nat → List Int32} {FP : Nat → Nat} {pn dc : Nat → Int32} (h : hp_WF B D L pl nm e (d + 1) FL FP pn dc) (he : e' ≤ B) : hp_WF B D (FL d) (FP d) ((dc d).toNatClampNeg + 1) e' d FL FP pn dc := by
  obtain ⟨⟨w1, w2, w3⟩, ⟨w4, w5, w6, w7⟩, w8, w9, w10⟩ := h
  obtain ⟨f1, f2, f3, f4⟩ := w8 d (Nat.lt_succ_self d)
  have hc := (hp_nb_c w10 (Nat.le_refl 32) d).1
  exact ⟨⟨f1, f2, fun _ => f3⟩, ⟨f4, by omega, he, by omega⟩, fun i hi => w8 i (by omega), w9, w10⟩
theorem hp_wf_app {B D : Nat} {t : Int32} {L S : List Int32} {pl nm e d m : Nat} {FL : Nat → List Int32} {FP : Nat → Nat} {pn dc : Nat → Int32} (h : hp_WF B D (t :: L) pl nm e d FL FP pn dc) (h16 : ¬ t < 16) (he : e < B) (hd : d < D) (hm : m < 32) (hS : ∀ x, x ∈ S → hp_vt x) (hS4 : S.length ≤ 4) : hp_WF B D (S ++ L) pl 0 (e + 1) (d + 1) (hp_up FL d (t :: L)) (hp_up FP d pl) pn (upd dc d (nI m)) := by
  obtain ⟨⟨w1, w2, w3⟩, ⟨w4, w5, w6, w7⟩, w8, w9, w10⟩ := h
  have w2' := w2
  rw [List.length_cons] at w2'
  refine ⟨⟨fun x hx => ?_, ?_, fun z => absurd rfl z⟩, ⟨w4, by omega, by omega, by omega⟩, fun i hi => ?_, w9, hp_nb_u w10 d ⟨m, hm, rfl⟩⟩
  · rcases List.mem_append.mp hx with hx | hx
    · exact hS x hx
    · exact w1 x (List.mem_cons_of_mem t hx)
  · rw [List.length_append]; omega
  · by_cases hid : i = d
    · rw [hid, hp_us, hp_us]
      exact ⟨w1, w2, ⟨t, L, rfl, h16⟩, w4⟩
    · rw [hp_un hid, hp_un hid]
      exact w8 i (by omega)
theorem hp_wf_skip {B D : Nat} {t : Int32} {L : List Int32} {pl nm e d m : Nat} {FL : Nat → List Int32} {FP : Nat → Nat} {pn dc : Nat → Int32} (h : hp_WF B D (t :: L) pl nm e d FL FP pn dc) (h16 : ¬ t < 16) (he : e < B) (hm : m < 32) : hp_WF B D (t :: L) pl (m + 1) (e + 1) d FL FP pn dc := by
  obtain ⟨⟨w1, w2, w3⟩, ⟨w4, w5, w6, w7⟩, w8, w9, w10⟩ := h
  exact ⟨⟨w1, w2, fun _ => ⟨t, L, rfl, h16⟩⟩, ⟨w4, by omega, by omega, w7⟩, w8, w9, w10⟩
section
variable (B D M : Nat) (tk : Nat → Int32) (sb : Nat → List Int32) (ok : Int64 → Nat → Prop) (ef : Int64 → Nat → Int64) (mk : Int64 → Nat → Prop) (G : hp_G)
def hp_R1 : Prop := ∀ ⦃k : Nat⦄ ⦃s : Int64⦄ ⦃pl nm e d : Nat⦄ ⦃FL : Nat → List Int32⦄ ⦃FS : Nat → Int64⦄ ⦃FP : Nat → Nat⦄ ⦃pn dc : Nat → Int32⦄, hp_WF B D [] pl nm e d FL FP pn dc → G (1, pl, d, e, pn, dc) (k + 1) [] s pl nm e d FL FS FP pn dc
def hp_R2 : Prop := ∀ ⦃k : Nat⦄ ⦃t : Int32⦄ ⦃L : List Int32⦄ ⦃s : Int64⦄ ⦃pl nm e d : Nat⦄ ⦃FL : Nat → List Int32⦄ ⦃FS : Nat → Int64⦄ ⦃FP : Nat → Nat⦄ ⦃pn dc : Nat → Int32⦄, hp_WF B D (t :: L) pl nm e d FL FP pn dc → t < 16 → e = B → G (3, pl, d, e, pn, dc) (k + 1) (t :: L) s pl nm e d FL FS FP pn dc
def hp_R3 : Prop := ∀ ⦃R : hp_R⦄ ⦃k : Nat⦄ ⦃t : Int32⦄ ⦃L : List Int32⦄ ⦃s : Int64⦄ ⦃pl nm e d : Nat⦄ ⦃FL : Nat → List Int32⦄ ⦃FS : Nat → Int64⦄ ⦃FP : Nat → Nat⦄ ⦃pn dc : Nat → Int32⦄, hp_WF B D (t :: L) pl nm e d FL FP pn dc → t < 16 → e < B → pl < 32 → ok s t.toNatClampNeg → G R k L (ef s t.toNatClampNeg) (pl + 1) nm (e + 1) d FL FS FP (upd pn pl t) dc → G R (k + 1) (t :: L) s pl nm e d FL FS FP pn dc
def hp_R4 : Prop := ∀ ⦃k : Nat⦄ ⦃t : Int32⦄ ⦃L : List Int32⦄ ⦃s : Int64⦄ ⦃pl nm e : Nat⦄ ⦃FL : Nat → List Int32⦄ ⦃FS : Nat → Int64⦄ ⦃FP : Nat → Nat⦄ ⦃pn dc : Nat → Int32⦄, hp_WF B D (t :: L) pl nm e 0 FL FP pn dc → t < 16 → e < B → ¬ (pl < 32 ∧ ok s t.toNatClampNeg) → G (2, pl, 0, e + 1, pn, dc) (k + 1) (t :: L) s pl nm e 0 FL FS FP pn dc
def hp_R5 : Prop := ∀ ⦃R : hp_R⦄ ⦃k : Nat⦄ ⦃t : Int32⦄ ⦃L : List Int32⦄ ⦃s : Int64⦄ ⦃pl nm e d : Nat⦄ ⦃FL : Nat → List Int32⦄ ⦃FS : Nat → Int64⦄ ⦃FP : Nat → Nat⦄ ⦃pn dc : Nat → Int32⦄, hp_WF B D (t :: L) pl nm e (d + 1) FL FP pn dc → t < 16 → e < B → ¬ (pl < 32 ∧ ok s t.toNatClampNeg) → G R k (FL d) (FS d) (FP d) ((dc d).toNatClampNeg + 1) (e + 1) d FL FS FP pn dc → G R (k + 1) (t :: L) s pl nm e (d + 1) FL FS FP pn dc
def hp_R6 : Prop := ∀ ⦃k : Nat⦄ ⦃t : Int32⦄ ⦃L : List Int32⦄ ⦃s : Int64⦄ ⦃pl nm e : Nat⦄ ⦃FL : Nat → List Int32⦄ ⦃FS : Nat → Int64⦄ ⦃FP : Nat → Nat⦄ ⦃pn dc : Nat → Int32⦄, hp_WF B D (t :: L) pl nm e 0 FL FP pn dc → ¬ t < 16 → (∀ j, nm ≤ j → j < M → tk j ≠ t) → G (2, pl, 0, e, pn, dc) (k + 1) (t :: L) s pl nm e 0 FL FS FP pn dc
def hp_R7 : Prop := ∀ ⦃R : hp_R⦄ ⦃k : Nat⦄ ⦃t : Int32⦄ ⦃L : List Int32⦄ ⦃s : Int64⦄ ⦃pl nm e d : Nat⦄ ⦃FL : Nat → List Int32⦄ ⦃FS : Nat → Int64⦄ ⦃FP : Nat → Nat⦄ ⦃pn dc : Nat → Int32⦄, hp_WF B D (t :: L) pl nm e (d + 1) FL FP pn dc → ¬ t < 16 → (∀ j, nm ≤ j → j < M → tk j ≠ t) → G R k (FL d) (FS d) (FP d) ((dc d).toNatClampNeg + 1) e d FL FS FP pn dc → G R (k + 1) (t :: L) s pl nm e (d + 1) FL FS FP pn dc
def hp_R8 : Prop := ∀ ⦃k : Nat⦄ ⦃t : Int32⦄ ⦃L : List Int32⦄ ⦃s : Int64⦄ ⦃pl nm e d m : Nat⦄ ⦃FL : Nat → List Int32⦄ ⦃FS : Nat → Int64⦄ ⦃FP : Nat → Nat⦄ ⦃pn dc : Nat → Int32⦄, hp_WF B D (t :: L) pl nm e d FL FP pn dc → ¬ t < 16 → m < M → hp_fs tk t nm m → e = B → G (3, pl, d, e, pn, dc) (k + 1) (t :: L) s pl nm e d FL FS FP pn dc
def hp_R9 : Prop := ∀ ⦃R : hp_R⦄ ⦃k : Nat⦄ ⦃t : Int32⦄ ⦃L : List Int32⦄ ⦃s : Int64⦄ ⦃pl nm e d m : Nat⦄ ⦃FL : Nat → List Int32⦄ ⦃FS : Nat → Int64⦄ ⦃FP : Nat → Nat⦄ ⦃pn dc : Nat → Int32⦄, hp_WF B D (t :: L) pl nm e d FL FP pn dc → ¬ t < 16 → m < M → hp_fs tk t nm m → e < B → d < D → mk s m → G R k (sb m ++ L) s pl 0 (e + 1) (d + 1) (hp_up FL d (t :: L)) (hp_up FS d s) (hp_up FP d pl) pn (upd dc d (nI m)) → G R (k + 1) (t :: L) s pl nm e d FL FS FP pn dc
def hp_R10 : Prop := ∀ ⦃R : hp_R⦄ ⦃k : Nat⦄ ⦃t : Int32⦄ ⦃L : List Int32⦄ ⦃s : Int64⦄ ⦃pl nm e d m : Nat⦄ ⦃FL : Nat → List Int32⦄ ⦃FS : Nat → Int64⦄ ⦃FP : Nat → Nat⦄ ⦃pn dc : Nat → Int32⦄, hp_WF B D (t :: L) pl nm e d FL FP pn dc → ¬ t < 16 → m < M → hp_fs tk t nm m → e < B → ¬ (d < D ∧ mk s m) → G R k (t :: L) s pl (m + 1) (e + 1) d FL FS FP pn dc → G R (k + 1) (t :: L) s pl nm e d FL FS FP pn dc
def hp_Rules : Prop := hp_R1 B D G ∧ hp_R2 B D G ∧ hp_R3 B D ok ef G ∧ hp_R4 B D ok G ∧ hp_R5 B D ok G ∧ hp_R6 B D M tk G ∧ hp_R7 B D M tk G ∧ hp_R8 B D M tk G ∧ hp_R9 B D M tk sb mk G ∧ hp_R10 B D M tk mk G
end
theorem hp_main {B D M : Nat} {tk : Nat → Int32} {sb : Nat → List Int32} {ok : Int64 → Nat → Prop} {ef : Int64 → Nat → Int64} {mk : Int64 → Nat → Prop} {GX GY : hp_G} (hM : M ≤ 32) (hD : D ≤ 16) (hsb : ∀ m, m < M → (∀ t, t ∈ sb m → hp_vt t) ∧ (sb m).length ≤ 4) (hX : hp_Rules B D M tk sb ok ef mk GX) (hY : hp_Rules B D M tk sb ok ef mk GY) : ∀ (k : Nat) (L : List Int32) (s : Int64) (pl nm e d : Nat) (FL : Nat → List Int32) (FS : Nat → Int64) (FP : Nat → Nat) (pn dc : Nat → Int32), hp_WF B D L pl nm e d FL FP pn dc → 2 * (B - e) + d < k → ∃ R : hp_R, hp_RG B R ∧ GX R k L s pl nm e d FL FS FP pn dc ∧ GY R k L s pl nm e d FL FS FP pn dc := by
  obtain ⟨x1, x2, x3, x4, x5, x6, x7, x8, x9, x10⟩ := hX
  obtain ⟨y1, y2, y3, y4, y5, y6, y7, y8, y9, y10⟩ := hY
  intro k
  induction k with
  | zero => intro L s pl nm e d FL FS FP pn dc hW hk; exact absurd hk (Nat.not_lt_zero _)
  | succ k ih =>
    intro L s pl nm e d FL FS FP pn dc hW hk
    have hW0 := hW
    obtain ⟨⟨w1, w2, w3⟩, ⟨w4, w5, w6, w7⟩, w8, w9, w10⟩ := hW0
    have hg : ∀ (st : Int32) (e' : Nat), e' ≤ B → hp_RG B (st, pl, d, e', pn, dc) := fun st e' h => ⟨w4, Nat.le_trans w7 hD, h, w9, w10⟩
    cases L with
    | nil => exact ⟨(1, pl, d, e, pn, dc), hg 1 e w6, x1 hW, y1 hW⟩
    | cons t L =>
      by_cases h16 : t < 16
      · by_cases hb : e = B
        · exact ⟨(3, pl, d, e, pn, dc), hg 3 e w6, x2 hW h16 hb, y2 hW h16 hb⟩
        · have he : e < B := by omega
          by_cases hok : pl < 32 ∧ ok s t.toNatClampNeg
          · obtain ⟨R, hR, gx, gy⟩ := ih L (ef s t.toNatClampNeg) (pl + 1) nm (e + 1) d FL FS FP (upd pn pl t) dc (hp_wf_op hW h16 he hok.1) (by omega)
            exact ⟨R, hR, x3 hW h16 he hok.1 hok.2 gx, y3 hW h16 he hok.1 hok.2 gy⟩
          · cases d with
            | zero => exact ⟨(2, pl, 0, e + 1, pn, dc), hg 2 (e + 1) he, x4 hW h16 he hok, y4 hW h16 he hok⟩
            | succ d =>
              obtain ⟨R, hR, gx, gy⟩ := ih (FL d) (FS d) (FP d) ((dc d).toNatClampNeg + 1) (e + 1) d FL FS FP pn dc (hp_wf_back hW he) (by omega)
              exact ⟨R, hR, x5 hW h16 he hok gx, y5 hW h16 he hok gy⟩
      · by_cases hf : ∃ m, m < M ∧ nm ≤ m ∧ tk m = t
        · obtain ⟨m, ⟨hm, h1, h2⟩, h3⟩ := pk_least _ hf
          have hfs : hp_fs tk t nm m := ⟨h1, h2, fun j a b c => h3 j b ⟨by omega, a, c⟩⟩
          by_cases hb : e = B
          · exact ⟨(3, pl, d, e, pn, dc), hg 3 e w6, x8 hW h16 hm hfs hb, y8 hW h16 hm hfs hb⟩
          · have he : e < B := by omega
            by_cases hok : d < D ∧ mk s m
            · obtain ⟨R, hR, gx, gy⟩ := ih (sb m ++ L) s pl 0 (e + 1) (d + 1) (hp_up FL d (t :: L)) (hp_up FS d s) (hp_up FP d pl) pn (upd dc d (nI m)) (hp_wf_app hW h16 he hok.1 (by omega) (hsb m hm).1 (hsb m hm).2) (by omega)
              exact ⟨R, hR, x9 hW h16 hm hfs he hok.1 hok.2 gx, y9 hW h16 hm hfs he hok.1 hok.2 gy⟩
            · obtain ⟨R, hR, gx, gy⟩ := ih (t :: L) s pl (m + 1) (e + 1) d FL FS FP pn dc (hp_wf_skip hW h16 he (by omega)) (by omega)
              exact ⟨R, hR, x10 hW h16 hm hfs he hok gx, y10 hW h16 hm hfs he hok gy⟩
        · have hn : ∀ j, nm ≤ j → j < M → tk j ≠ t := fun j a b c => hf ⟨j, b, a, c⟩
          cases d with
          | zero => exact ⟨(2, pl, 0, e, pn, dc), hg 2 e w6, x6 hW h16 hn, y6 hW h16 hn⟩
          | succ d =>
            obtain ⟨R, hR, gx, gy⟩ := ih (FL d) (FS d) (FP d) ((dc d).toNatClampNeg + 1) e d FL FS FP pn dc (hp_wf_back hW w6) (by omega)
            exact ⟨R, hR, x7 hW h16 hn gx, y7 hW h16 hn gy⟩
