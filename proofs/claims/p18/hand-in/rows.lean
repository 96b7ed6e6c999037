section
theorem wb_tb (n : Nat) : (lN n).toBitVec = BitVec.ofNat 64 n := rfl
theorem wb_inj {a b : Int64} (h : a.toBitVec = b.toBitVec) : a = b := Int64.toBitVec_inj.mp h
theorem wb_tn {n : Nat} (h : n < 2 ^ 64) : (lN n).toBitVec.toNat = n := by rw [wb_tb, BitVec.toNat_ofNat, Nat.mod_eq_of_lt h]
theorem wb_of (x : Int64) : ∃ n, n < 2 ^ 64 ∧ x = lN n := ⟨x.toBitVec.toNat, x.toBitVec.isLt, wb_inj (by rw [wb_tb]; simp)⟩
theorem wb_of32 (x : Int32) : ∃ n, n < 2 ^ 32 ∧ x = nI n := ⟨x.toBitVec.toNat, x.toBitVec.isLt, Int32.toBitVec_inj.mp (by show _ = BitVec.ofNat 32 _; simp)⟩
theorem wb_c : ∀ k, k < 64 → ((nI k).toInt64 &&& 63) = lN k := by decide +kernel
theorem wb_cu : ∀ k, k < 64 → ((nI k).toInt64.toUInt64 &&& Int64.toUInt64 63) = UInt64.ofNat k := by decide +kernel
theorem wb_sm : ∀ k, k < 64 → (BitVec.ofNat 64 k).smod 64 = BitVec.ofNat 64 k := by decide +kernel
theorem wb_pw {a b : Nat} (h : a ≤ b) : 2 ^ b = 2 ^ a * 2 ^ (b - a) := by rw [← Nat.pow_add]; congr 1; omega
theorem wb_lt2 {a b : Nat} (h : a < b) : 2 ^ a < 2 ^ b := Nat.pow_lt_pow_right (by decide) h
theorem wb_mod (n : Nat) : lN n = lN (n % 2 ^ 64) := wb_inj (by rw [wb_tb, wb_tb]; apply BitVec.eq_of_toNat_eq; rw [BitVec.toNat_ofNat, BitVec.toNat_ofNat, Nat.mod_mod])
theorem wb_shr {n k : Nat} (hn : n < 2 ^ 64) (hk : k < 64) : ((lN n).toUInt64 >>> ((nI k).toInt64.toUInt64 &&& Int64.toUInt64 63)).toInt64 = lN (n / 2 ^ k) := by
  rw [wb_cu k hk]
  apply wb_inj
  apply BitVec.eq_of_toNat_eq
  show ((lN n).toUInt64 >>> UInt64.ofNat k).toNat = (BitVec.ofNat 64 _).toNat
  have h1 : (UInt64.ofNat k).toNat = k := by
    show (BitVec.ofNat 64 k).toNat = k
    rw [BitVec.toNat_ofNat, Nat.mod_eq_of_lt (by omega)]
  have h2 : (lN n).toUInt64.toNat = n := wb_tn hn
  rw [UInt64.toNat_shiftRight, h1, h2, Nat.mod_eq_of_lt hk, Nat.shiftRight_eq_div_pow, BitVec.toNat_ofNat, Nat.mod_eq_of_lt (Nat.lt_of_le_of_lt (Nat.div_le_self _ _) hn)]
theorem wb_shl (n : Nat) {k : Nat} (hk : k < 64) : lN n <<< ((nI k).toInt64 &&& 63) = lN (n * 2 ^ k) := by
  rw [wb_c k hk]
  apply wb_inj
  rw [Int64.toBitVec_shiftLeft, wb_tb, wb_tb, wb_tb, wb_sm k hk]
  apply BitVec.eq_of_toNat_eq
  rw [BitVec.shiftLeft_eq', BitVec.toNat_shiftLeft, BitVec.toNat_ofNat, BitVec.toNat_ofNat, BitVec.toNat_ofNat, Nat.mod_eq_of_lt (show k < 2 ^ 64 by omega), Nat.shiftLeft_eq, Nat.mul_mod, Nat.mod_mod, ← Nat.mul_mod]
theorem wb_and {a b : Nat} (ha : a < 2 ^ 64) (hb : b < 2 ^ 64) : lN a &&& lN b = lN (a &&& b) := by
  apply wb_inj
  rw [Int64.toBitVec_and, wb_tb, wb_tb, wb_tb]
  apply BitVec.eq_of_toNat_eq
  rw [BitVec.toNat_and, BitVec.toNat_ofNat, BitVec.toNat_ofNat, BitVec.toNat_ofNat, Nat.mod_eq_of_lt ha, Nat.mod_eq_of_lt hb, Nat.mod_eq_of_lt (Nat.and_lt_two_pow _ hb)]
theorem wb_or {a b : Nat} (ha : a < 2 ^ 64) (hb : b < 2 ^ 64) : lN a ||| lN b = lN (a ||| b) := by
  apply wb_inj
  rw [Int64.toBitVec_or, wb_tb, wb_tb, wb_tb]
  apply BitVec.eq_of_toNat_eq
  rw [BitVec.toNat_or, BitVec.toNat_ofNat, BitVec.toNat_ofNat, BitVec.toNat_ofNat, Nat.mod_eq_of_lt ha, Nat.mod_eq_of_lt hb, Nat.mod_eq_of_lt (Nat.or_lt_two_pow ha hb)]
theorem wb_mask {n k : Nat} (hn : n < 2 ^ 64) (hk : k < 64) : lN n &&& lN (2 ^ k - 1) = lN (n % 2 ^ k) := by
  rw [wb_and hn (by have := wb_lt2 hk; omega), Nat.and_two_pow_sub_one_eq_mod]
theorem u_tn {n : Nat} (h : n < 2 ^ 64) : (UInt64.ofNat n).toNat = n := Nat.mod_eq_of_lt h
theorem g_and {a b c : Nat} (ha : a < 2 ^ 64) (hb : b < 2 ^ 64) (hc : a &&& b = c) : lN a &&& lN b = lN c := by
  subst hc
  have h : UInt64.ofNat a &&& UInt64.ofNat b = UInt64.ofNat (a &&& b) := UInt64.toNat_inj.mp (by rw [UInt64.toNat_and, u_tn ha, u_tn hb, u_tn (Nat.and_lt_two_pow a hb)])
  have h2 := congrArg UInt64.toInt64 h
  exact h2
theorem g_mask {a s p : Nat} (hp : 2 ^ s = p) (hs : s < 64) (ha : a < 2 ^ 64) : lN a &&& lN (p - 1) = lN (a % p) := by
  subst hp
  have := Nat.pow_lt_pow_right (show 1 < 2 by decide) hs
  exact g_and ha (by omega) (Nat.and_two_pow_sub_one_eq_mod a s)
theorem g_or {k p a b : Nat} (hp : 2 ^ k = p) (ha : a < p) (h : b * p + a < 2 ^ 64) : lN (b * p) ||| lN a = lN (b * p + a) := by
  subst hp
  have h1 : b * 2 ^ k ||| a = b * 2 ^ k + a := by rw [← Nat.shiftLeft_eq, Nat.shiftLeft_add_eq_or_of_lt ha]
  have h3 : UInt64.ofNat (b * 2 ^ k) ||| UInt64.ofNat a = UInt64.ofNat (b * 2 ^ k + a) := UInt64.toNat_inj.mp (by rw [UInt64.toNat_or, u_tn (by omega), u_tn (by omega), u_tn h, h1])
  have h2 := congrArg UInt64.toInt64 h3
  exact h2
theorem g_or' {k p a b : Nat} (hp : 2 ^ k = p) (ha : a < p) (h : a + b * p < 2 ^ 64) : lN a ||| lN (b * p) = lN (a + b * p) := by
  rw [Int64.or_comm, g_or hp ha (by omega), Nat.add_comm]
end
section
theorem hp_16 : nI 16 = 16 := by decide +kernel
def hp_vt (t : Int32) : Prop := ∃ j : Nat, j < 32 ∧ t = nI j
def hp_hd (L : List Int32) : Prop := ∃ t L', L = t :: L' ∧ ¬ t < 16
def hp_nb (N : Nat) (a : Nat → Int32) : Prop := ∀ i, ∃ m : Nat, m < N ∧ a i = nI m
def hp_up {α : Type} (f : Nat → α) (k : Nat) (x : α) : Nat → α := fun j => if j = k then x else f j
theorem hp_us {α : Type} {f : Nat → α} {k : Nat} {x : α} : hp_up f k x k = x := if_pos rfl
theorem hp_un {α : Type} {f : Nat → α} {k j : Nat} {x : α} (h : j ≠ k) : hp_up f k x j = f j := if_neg h
theorem hp_nb_u {N : Nat} {a : Nat → Int32} (h : hp_nb N a) (k : Nat) {x : Int32} (hx : ∃ m : Nat, m < N ∧ x = nI m) : hp_nb N (upd a k x) := by
  intro i
  by_cases e : i = k
  · rw [e, pk_us]; exact hx
  · rw [pk_un e]; exact h i
theorem hp_nb_c {N : Nat} {a : Nat → Int32} (h : hp_nb N a) (hN : N ≤ 32) (i : Nat) : (a i).toNatClampNeg < N ∧ a i = nI (a i).toNatClampNeg := by
  obtain ⟨m, hm, e⟩ := h i
  have hc : (nI m).toNatClampNeg = m := nI_clamp (by omega)
  rw [e, hc]
  exact ⟨hm, rfl⟩
theorem hp_vt_lt {t : Int32} (h : hp_vt t) (h16 : t < 16) : ∃ j : Nat, j < 16 ∧ t = nI j := by
  obtain ⟨j, hj, rfl⟩ := h
  rw [← hp_16, nI_ltI (by omega) (by omega)] at h16
  exact ⟨j, h16, rfl⟩
def hp_sl (g : Nat → Int32) : Nat → Nat → List Int32
  | _, 0 => []
  | k, n + 1 => g k :: hp_sl g (k + 1) n
theorem hp_sl_len (g : Nat → Int32) : ∀ n k : Nat, (hp_sl g k n).length = n := by
  intro n
  induction n with
  | zero => intro k; rfl
  | succ n ih => intro k; show (hp_sl g (k + 1) n).length + 1 = n + 1; rw [ih]
theorem hp_sl_mem {g : Nat → Int32} (h : ∀ i, hp_vt (g i)) : ∀ (n k : Nat) (t : Int32), t ∈ hp_sl g k n → hp_vt t := by
  intro n
  induction n with
  | zero => intro k t ht; exact absurd ht List.not_mem_nil
  | succ n ih =>
    intro k t ht
    rcases List.mem_cons.mp (show t ∈ g k :: hp_sl g (k + 1) n from ht) with e | e
    · rw [e]; exact h k
    · exact ih (k + 1) t e
def hp_ar (a : Nat → Int32) : Nat → List Int32 → Prop
  | _, [] => True
  | o, t :: L => a o = t ∧ hp_ar a (o + 1) L
theorem hp_ar_eq {a a' : Nat → Int32} : ∀ (L : List Int32) (o o' : Nat), (∀ j, j < L.length → a' (o' + j) = a (o + j)) → hp_ar a o L → hp_ar a' o' L := by
  intro L
  induction L with
  | nil => intro o o' h ha; trivial
  | cons t L ih =>
    intro o o' h ha
    obtain ⟨e, ha⟩ := ha
    refine ⟨(h 0 (Nat.succ_pos _)).trans e, ih (o + 1) (o' + 1) (fun j hj => ?_) ha⟩
    have := h (j + 1) (Nat.succ_lt_succ hj)
    rw [show o' + 1 + j = o' + (j + 1) by omega, show o + 1 + j = o + (j + 1) by omega]
    exact this
theorem hp_ar_app {a : Nat → Int32} : ∀ (L1 L2 : List Int32) (o : Nat), hp_ar a o L1 → hp_ar a (o + L1.length) L2 → hp_ar a o (L1 ++ L2) := by
  intro L1
  induction L1 with
  | nil => intro L2 o _ h; exact h
  | cons t L1 ih =>
    intro L2 o h1 h2
    obtain ⟨e, h1⟩ := h1
    refine ⟨e, ih L2 (o + 1) h1 ?_⟩
    rw [List.length_cons] at h2
    rw [show o + 1 + L1.length = o + (L1.length + 1) by omega]
    exact h2
theorem hp_ar_sl {a g : Nat → Int32} : ∀ n o k : Nat, (∀ j, j < n → a (o + j) = g (k + j)) → hp_ar a o (hp_sl g k n) := by
  intro n
  induction n with
  | zero => intro o k _; trivial
  | succ n ih =>
    intro o k h
    refine ⟨h 0 (Nat.succ_pos _), ih (o + 1) (k + 1) (fun j hj => ?_)⟩
    have := h (j + 1) (Nat.succ_lt_succ hj)
    rw [show o + 1 + j = o + (j + 1) by omega, show k + 1 + j = k + (j + 1) by omega]
    exact this
def hp_ch (P : Nat → Prop) (ct cn : Nat → Int32) : Int32 → List Int32 → Prop
  | c, [] => c = -1
  | c, t :: L => ∃ j : Nat, P j ∧ j < 72 ∧ c = nI j ∧ ct j = t ∧ hp_ch P ct cn (cn j) L
theorem hp_ch_w {P Q : Nat → Prop} {ct cn ct' cn' : Nat → Int32} (hk : ∀ j, P j → Q j ∧ ct' j = ct j ∧ cn' j = cn j) : ∀ (L : List Int32) (c : Int32), hp_ch P ct cn c L → hp_ch Q ct' cn' c L := by
  intro L
  induction L with
  | nil => intro c h; exact h
  | cons t L ih =>
    intro c h
    obtain ⟨j, hP, hj, hc, ht, hr⟩ := h
    obtain ⟨hQ, e1, e2⟩ := hk j hP
    refine ⟨j, hQ, hj, hc, e1.trans ht, ?_⟩
    rw [e2]
    exact ih (cn j) hr
theorem hp_ch_put {P Q : Nat → Prop} {ct cn : Nat → Int32} {c t : Int32} {L : List Int32} {k : Nat} (h : hp_ch P ct cn c L) (hk : ¬ P k) (hQ : ∀ j, P j → Q j) (hQk : Q k) (h72 : k < 72) : hp_ch Q (upd ct k t) (upd cn k c) (nI k) (t :: L) := by
  refine ⟨k, hQk, h72, rfl, pk_us, ?_⟩
  rw [pk_us]
  refine hp_ch_w (fun j hj => ?_) L c h
  have hn : j ≠ k := fun e => hk (e ▸ hj)
  exact ⟨hQ j hj, pk_un hn, pk_un hn⟩
def hp_X1 (ct cn sc : Nat → Int32) (ss : Nat → Int64) (sp : Nat → Int32) (i : Nat) (L : List Int32) (s : Int64) (pl : Nat) : Prop :=
  ss i = s ∧ sp i = nI pl ∧ hp_ch (fun j => j < 8 + 4 * i) ct cn (sc i) L
def hp_Y1 (fS : Nat → Int64) (fP fT fX fN fL : Nat → Int32) (i : Nat) (L : List Int32) (s : Int64) (pl nm : Nat) : Prop :=
  fS i = s ∧ fP i = nI pl ∧ (∃ t L', L = t :: L' ∧ fT i = t) ∧ fX i = nI nm ∧ fN i = nI L.length ∧ hp_ar fL (i * 64) L
end
section
abbrev hp_R : Type := Int32 × Nat × Nat × Nat × (Nat → Int32) × (Nat → Int32)
abbrev hp_G : Type := hp_R → Nat → List Int32 → Int64 → Nat → Nat → Nat → Nat → (Nat → List Int32) → (Nat → Int64) → (Nat → Nat) → (Nat → Int32) → (Nat → Int32) → Prop
def hp_RG (B : Nat) (R : hp_R) : Prop := R.2.1 ≤ 32 ∧ R.2.2.1 ≤ 16 ∧ R.2.2.2.1 ≤ B ∧ hp_nb 16 R.2.2.2.2.1 ∧ hp_nb 32 R.2.2.2.2.2
def hp_fs (tk : Nat → Int32) (t : Int32) (nm m : Nat) : Prop := nm ≤ m ∧ tk m = t ∧ ∀ j, nm ≤ j → j < m → tk j ≠ t
def hp_WF (B D : Nat) (L : List Int32) (pl nm e d : Nat) (FL : Nat → List Int32) (FP : Nat → Nat) (pn dc : Nat → Int32) : Prop :=
  ((∀ t, t ∈ L → hp_vt t) ∧ L.length ≤ 8 + 3 * d ∧ (nm ≠ 0 → hp_hd L)) ∧ (pl ≤ 32 ∧ nm ≤ 32 ∧ e ≤ B ∧ d ≤ D) ∧
  (∀ i, i < d → (∀ t, t ∈ FL i → hp_vt t) ∧ (FL i).length ≤ 8 + 3 * i ∧ hp_hd (FL i) ∧ FP i ≤ 32) ∧ hp_nb 16 pn ∧ hp_nb 32 dc
theorem hp_wf_nm {B D : Nat} {t : Int32} {L : List Int32} {pl nm e d : Nat} {FL : Nat → List Int32} {FP : Nat → Nat} {pn dc : Nat → Int32} (h : hp_WF B D (t :: L) pl nm e d FL FP pn dc) (h16 : t < 16) : nm = 0 := by
  obtain ⟨⟨w1, w2, w3⟩, ⟨w4, w5, w6, w7⟩, w8, w9, w10⟩ := h
  by_cases hn : nm = 0
  · exact hn
  · obtain ⟨t', L', he, hn'⟩ := w3 hn
    injection he with h1 h2
    rw [h1] at h16
    exact absurd h16 hn'
theorem hp_wf_op {B D : Nat} {t : Int32} {L : List Int32} {pl nm e d : Nat} {FL : Nat → List Int32} {FP : Nat → Nat} {pn dc : Nat → Int32} (h : hp_WF B D (t :: L) pl nm e d FL FP pn dc) (h16 : t < 16) (he : e < B) (hp : pl < 32) : hp_WF B D L (pl + 1) nm (e + 1) d FL FP (upd pn pl t) dc := by
  have hn := hp_wf_nm h h16
  obtain ⟨⟨w1, w2, w3⟩, ⟨w4, w5, w6, w7⟩, w8, w9, w10⟩ := h
  rw [List.length_cons] at w2
  refine ⟨⟨fun x hx => w1 x (List.mem_cons_of_mem t hx), by omega, fun z => absurd hn z⟩, ⟨by omega, w5, by omega, w7⟩, w8, hp_nb_u w9 pl (hp_vt_lt (w1 t List.mem_cons_self) h16), w10⟩
theorem hp_wf_back {B D : Nat} {L : List Int32} {pl nm e e' d : Nat} {FL : Nat → List Int32} {FP : Nat → Nat} {pn dc : Nat → Int32} (h : hp_WF B D L pl nm e (d + 1) FL FP pn dc) (he : e' ≤ B) : hp_WF B D (FL d) (FP d) ((dc d).toNatClampNeg + 1) e' d FL FP pn dc := by
  obtain ⟨⟨w1, w2, w3⟩, ⟨w4, w5, w6, w7⟩, w8, w9, w10⟩ := h
  obtain ⟨f1, f2, f3, f4⟩ := w8 d (Nat.lt_succ_self d)
  have hc := (hp_nb_c w10 (Nat.le_refl 32) d).1
  exact ⟨⟨f1, f2, fun _ => f3⟩, ⟨f4, by omega, he, by omega⟩, fun i hi => w8 i (by omega), w9, w10⟩
theorem hp_wf_app {B D : Nat} {t : Int32} {L S : List Int32} {pl nm e d m : Nat} {FL : Nat → List Int32} {FP : Nat → Nat} {pn dc : Nat → Int32} (h : hp_WF B D (t :: L) pl nm e d FL FP pn dc) (h16 : ¬ t < 16) (he : e < B) (hd : d < D) (hm : m < 32) (hS : ∀ x, x ∈ S → hp_vt x) (hS4 : S.length ≤ 4) : hp_WF B D (S ++ L) pl 0 (e + 1) (d + 1) (hp_up FL d (t :: L)) (hp_up FP d pl) pn (upd dc d (nI m)) := by
  obtain ⟨⟨w1, w2, w3⟩, ⟨w4, w5, w6, w7⟩, w8, w9, w10⟩ := h
  have w2' := w2
  rw [List.length_cons] at w2'
  refine ⟨⟨fun x hx => ?_, ?_, fun z => absurd rfl z⟩, ⟨w4, by omega, by omega, by omega⟩, fun i hi => ?_, w9, hp_nb_u w10 d ⟨m, hm, rfl⟩⟩
  · rcases List.mem_append.mp hx with hx | hx
    · exact hS x hx
    · exact w1 x (List.mem_cons_of_mem t hx)
  · rw [List.length_append]; omega
  · by_cases hid : i = d
    · rw [hid, hp_us, hp_us]
      exact ⟨w1, w2, ⟨t, L, rfl, h16⟩, w4⟩
    · rw [hp_un hid, hp_un hid]
      exact w8 i (by omega)
theorem hp_wf_skip {B D : Nat} {t : Int32} {L : List Int32} {pl nm e d m : Nat} {FL : Nat → List Int32} {FP : Nat → Nat} {pn dc : Nat → Int32} (h : hp_WF B D (t :: L) pl nm e d FL FP pn dc) (h16 : ¬ t < 16) (he : e < B) (hm : m < 32) : hp_WF B D (t :: L) pl (m + 1) (e + 1) d FL FP pn dc := by
  obtain ⟨⟨w1, w2, w3⟩, ⟨w4, w5, w6, w7⟩, w8, w9, w10⟩ := h
  exact ⟨⟨w1, w2, fun _ => ⟨t, L, rfl, h16⟩⟩, ⟨w4, by omega, by omega, w7⟩, w8, w9, w10⟩
section
variable (B D M : Nat) (tk : Nat → Int32) (sb : Nat → List Int32) (ok : Int64 → Nat → Prop) (ef : Int64 → Nat → Int64) (mk : Int64 → Nat → Prop) (G : hp_G)
def hp_R1 : Prop := ∀ ⦃k : Nat⦄ ⦃s : Int64⦄ ⦃pl nm e d : Nat⦄ ⦃FL : Nat → List Int32⦄ ⦃FS : Nat → Int64⦄ ⦃FP : Nat → Nat⦄ ⦃pn dc : Nat → Int32⦄, hp_WF B D [] pl nm e d FL FP pn dc → G (1, pl, d, e, pn, dc) (k + 1) [] s pl nm e d FL FS FP pn dc
def hp_R2 : Prop := ∀ ⦃k : Nat⦄ ⦃t : Int32⦄ ⦃L : List Int32⦄ ⦃s : Int64⦄ ⦃pl nm e d : Nat⦄ ⦃FL : Nat → List Int32⦄ ⦃FS : Nat → Int64⦄ ⦃FP : Nat → Nat⦄ ⦃pn dc : Nat → Int32⦄, hp_WF B D (t :: L) pl nm e d FL FP pn dc → t < 16 → e = B → G (3, pl, d, e, pn, dc) (k + 1) (t :: L) s pl nm e d FL FS FP pn dc
def hp_R3 : Prop := ∀ ⦃R : hp_R⦄ ⦃k : Nat⦄ ⦃t : Int32⦄ ⦃L : List Int32⦄ ⦃s : Int64⦄ ⦃pl nm e d : Nat⦄ ⦃FL : Nat → List Int32⦄ ⦃FS : Nat → Int64⦄ ⦃FP : Nat → Nat⦄ ⦃pn dc : Nat → Int32⦄, hp_WF B D (t :: L) pl nm e d FL FP pn dc → t < 16 → e < B → pl < 32 → ok s t.toNatClampNeg → G R k L (ef s t.toNatClampNeg) (pl + 1) nm (e + 1) d FL FS FP (upd pn pl t) dc → G R (k + 1) (t :: L) s pl nm e d FL FS FP pn dc
def hp_R4 : Prop := ∀ ⦃k : Nat⦄ ⦃t : Int32⦄ ⦃L : List Int32⦄ ⦃s : Int64⦄ ⦃pl nm e : Nat⦄ ⦃FL : Nat → List Int32⦄ ⦃FS : Nat → Int64⦄ ⦃FP : Nat → Nat⦄ ⦃pn dc : Nat → Int32⦄, hp_WF B D (t :: L) pl nm e 0 FL FP pn dc → t < 16 → e < B → ¬ (pl < 32 ∧ ok s t.toNatClampNeg) → G (2, pl, 0, e + 1, pn, dc) (k + 1) (t :: L) s pl nm e 0 FL FS FP pn dc
def hp_R5 : Prop := ∀ ⦃R : hp_R⦄ ⦃k : Nat⦄ ⦃t : Int32⦄ ⦃L : List Int32⦄ ⦃s : Int64⦄ ⦃pl nm e d : Nat⦄ ⦃FL : Nat → List Int32⦄ ⦃FS : Nat → Int64⦄ ⦃FP : Nat → Nat⦄ ⦃pn dc : Nat → Int32⦄, hp_WF B D (t :: L) pl nm e (d + 1) FL FP pn dc → t < 16 → e < B → ¬ (pl < 32 ∧ ok s t.toNatClampNeg) → G R k (FL d) (FS d) (FP d) ((dc d).toNatClampNeg + 1) (e + 1) d FL FS FP pn dc → G R (k + 1) (t :: L) s pl nm e (d + 1) FL FS FP pn dc
def hp_R6 : Prop := ∀ ⦃k : Nat⦄ ⦃t : Int32⦄ ⦃L : List Int32⦄ ⦃s : Int64⦄ ⦃pl nm e : Nat⦄ ⦃FL : Nat → List Int32⦄ ⦃FS : Nat → Int64⦄ ⦃FP : Nat → Nat⦄ ⦃pn dc : Nat → Int32⦄, hp_WF B D (t :: L) pl nm e 0 FL FP pn dc → ¬ t < 16 → (∀ j, nm ≤ j → j < M → tk j ≠ t) → G (2, pl, 0, e, pn, dc) (k + 1) (t :: L) s pl nm e 0 FL FS FP pn dc
def hp_R7 : Prop := ∀ ⦃R : hp_R⦄ ⦃k : Nat⦄ ⦃t : Int32⦄ ⦃L : List Int32⦄ ⦃s : Int64⦄ ⦃pl nm e d : Nat⦄ ⦃FL : Nat → List Int32⦄ ⦃FS : Nat → Int64⦄ ⦃FP : Nat → Nat⦄ ⦃pn dc : Nat → Int32⦄, hp_WF B D (t :: L) pl nm e (d + 1) FL FP pn dc → ¬ t < 16 → (∀ j, nm ≤ j → j < M → tk j ≠ t) → G R k (FL d) (FS d) (FP d) ((dc d).toNatClampNeg + 1) e d FL FS FP pn dc → G R (k + 1) (t :: L) s pl nm e (d + 1) FL FS FP pn dc
def hp_R8 : Prop := ∀ ⦃k : Nat⦄ ⦃t : Int32⦄ ⦃L : List Int32⦄ ⦃s : Int64⦄ ⦃pl nm e d m : Nat⦄ ⦃FL : Nat → List Int32⦄ ⦃FS : Nat → Int64⦄ ⦃FP : Nat → Nat⦄ ⦃pn dc : Nat → Int32⦄, hp_WF B D (t :: L) pl nm e d FL FP pn dc → ¬ t < 16 → m < M → hp_fs tk t nm m → e = B → G (3, pl, d, e, pn, dc) (k + 1) (t :: L) s pl nm e d FL FS FP pn dc
def hp_R9 : Prop := ∀ ⦃R : hp_R⦄ ⦃k : Nat⦄ ⦃t : Int32⦄ ⦃L : List Int32⦄ ⦃s : Int64⦄ ⦃pl nm e d m : Nat⦄ ⦃FL : Nat → List Int32⦄ ⦃FS : Nat → Int64⦄ ⦃FP : Nat → Nat⦄ ⦃pn dc : Nat → Int32⦄, hp_WF B D (t :: L) pl nm e d FL FP pn dc → ¬ t < 16 → m < M → hp_fs tk t nm m → e < B → d < D → mk s m → G R k (sb m ++ L) s pl 0 (e + 1) (d + 1) (hp_up FL d (t :: L)) (hp_up FS d s) (hp_up FP d pl) pn (upd dc d (nI m)) → G R (k + 1) (t :: L) s pl nm e d FL FS FP pn dc
def hp_R10 : Prop := ∀ ⦃R : hp_R⦄ ⦃k : Nat⦄ ⦃t : Int32⦄ ⦃L : List Int32⦄ ⦃s : Int64⦄ ⦃pl nm e d m : Nat⦄ ⦃FL : Nat → List Int32⦄ ⦃FS : Nat → Int64⦄ ⦃FP : Nat → Nat⦄ ⦃pn dc : Nat → Int32⦄, hp_WF B D (t :: L) pl nm e d FL FP pn dc → ¬ t < 16 → m < M → hp_fs tk t nm m → e < B → ¬ (d < D ∧ mk s m) → G R k (t :: L) s pl (m + 1) (e + 1) d FL FS FP pn dc → G R (k + 1) (t :: L) s pl nm e d FL FS FP pn dc
def hp_Rules : Prop := hp_R1 B D G ∧ hp_R2 B D G ∧ hp_R3 B D ok ef G ∧ hp_R4 B D ok G ∧ hp_R5 B D ok G ∧ hp_R6 B D M tk G ∧ hp_R7 B D M tk G ∧ hp_R8 B D M tk G ∧ hp_R9 B D M tk sb mk G ∧ hp_R10 B D M tk mk G
end
theorem hp_main {B D M : Nat} {tk : Nat → Int32} {sb : Nat → List Int32} {ok : Int64 → Nat → Prop} {ef : Int64 → Nat → Int64} {mk : Int64 → Nat → Prop} {GX GY : hp_G} (hM : M ≤ 32) (hD : D ≤ 16) (hsb : ∀ m, m < M → (∀ t, t ∈ sb m → hp_vt t) ∧ (sb m).length ≤ 4) (hX : hp_Rules B D M tk sb ok ef mk GX) (hY : hp_Rules B D M tk sb ok ef mk GY) : ∀ (k : Nat) (L : List Int32) (s : Int64) (pl nm e d : Nat) (FL : Nat → List Int32) (FS : Nat → Int64) (FP : Nat → Nat) (pn dc : Nat → Int32), hp_WF B D L pl nm e d FL FP pn dc → 2 * (B - e) + d < k → ∃ R : hp_R, hp_RG B R ∧ GX R k L s pl nm e d FL FS FP pn dc ∧ GY R k L s pl nm e d FL FS FP pn dc := by
  obtain ⟨x1, x2, x3, x4, x5, x6, x7, x8, x9, x10⟩ := hX
  obtain ⟨y1, y2, y3, y4, y5, y6, y7, y8, y9, y10⟩ := hY
  intro k
  induction k with
  | zero => intro L s pl nm e d FL FS FP pn dc hW hk; exact absurd hk (Nat.not_lt_zero _)
  | succ k ih =>
    intro L s pl nm e d FL FS FP pn dc hW hk
    have hW0 := hW
    obtain ⟨⟨w1, w2, w3⟩, ⟨w4, w5, w6, w7⟩, w8, w9, w10⟩ := hW0
    have hg : ∀ (st : Int32) (e' : Nat), e' ≤ B → hp_RG B (st, pl, d, e', pn, dc) := fun st e' h => ⟨w4, Nat.le_trans w7 hD, h, w9, w10⟩
    cases L with
    | nil => exact ⟨(1, pl, d, e, pn, dc), hg 1 e w6, x1 hW, y1 hW⟩
    | cons t L =>
      by_cases h16 : t < 16
      · by_cases hb : e = B
        · exact ⟨(3, pl, d, e, pn, dc), hg 3 e w6, x2 hW h16 hb, y2 hW h16 hb⟩
        · have he : e < B := by omega
          by_cases hok : pl < 32 ∧ ok s t.toNatClampNeg
          · obtain ⟨R, hR, gx, gy⟩ := ih L (ef s t.toNatClampNeg) (pl + 1) nm (e + 1) d FL FS FP (upd pn pl t) dc (hp_wf_op hW h16 he hok.1) (by omega)
            exact ⟨R, hR, x3 hW h16 he hok.1 hok.2 gx, y3 hW h16 he hok.1 hok.2 gy⟩
          · cases d with
            | zero => exact ⟨(2, pl, 0, e + 1, pn, dc), hg 2 (e + 1) he, x4 hW h16 he hok, y4 hW h16 he hok⟩
            | succ d =>
              obtain ⟨R, hR, gx, gy⟩ := ih (FL d) (FS d) (FP d) ((dc d).toNatClampNeg + 1) (e + 1) d FL FS FP pn dc (hp_wf_back hW he) (by omega)
              exact ⟨R, hR, x5 hW h16 he hok gx, y5 hW h16 he hok gy⟩
      · by_cases hf : ∃ m, m < M ∧ nm ≤ m ∧ tk m = t
        · obtain ⟨m, ⟨hm, h1, h2⟩, h3⟩ := pk_least _ hf
          have hfs : hp_fs tk t nm m := ⟨h1, h2, fun j a b c => h3 j b ⟨by omega, a, c⟩⟩
          by_cases hb : e = B
          · exact ⟨(3, pl, d, e, pn, dc), hg 3 e w6, x8 hW h16 hm hfs hb, y8 hW h16 hm hfs hb⟩
          · have he : e < B := by omega
            by_cases hok : d < D ∧ mk s m
            · obtain ⟨R, hR, gx, gy⟩ := ih (sb m ++ L) s pl 0 (e + 1) (d + 1) (hp_up FL d (t :: L)) (hp_up FS d s) (hp_up FP d pl) pn (upd dc d (nI m)) (hp_wf_app hW h16 he hok.1 (by omega) (hsb m hm).1 (hsb m hm).2) (by omega)
              exact ⟨R, hR, x9 hW h16 hm hfs he hok.1 hok.2 gx, y9 hW h16 hm hfs he hok.1 hok.2 gy⟩
            · obtain ⟨R, hR, gx, gy⟩ := ih (t :: L) s pl (m + 1) (e + 1) d FL FS FP pn dc (hp_wf_skip hW h16 he (by omega)) (by omega)
              exact ⟨R, hR, x10 hW h16 hm hfs he hok gx, y10 hW h16 hm hfs he hok gy⟩
        · have hn : ∀ j, nm ≤ j → j < M → tk j ≠ t := fun j a b c => hf ⟨j, b, a, c⟩
          cases d with
          | zero => exact ⟨(2, pl, 0, e, pn, dc), hg 2 e w6, x6 hW h16 hn, y6 hW h16 hn⟩
          | succ d =>
            obtain ⟨R, hR, gx, gy⟩ := ih (FL d) (FS d) (FP d) ((dc d).toNatClampNeg + 1) e d FL FS FP pn dc (hp_wf_back hW w6) (by omega)
            exact ⟨R, hR, x7 hW h16 hn gx, y7 hW h16 hn gy⟩
end
section
def hp_ap (s p n : Int64) : Prop := (s &&& p) = p ∧ (s &&& n) = 0
def hp_dn : Nat → Int32
  | 0 => -1
  | k + 1 => nI k
theorem hp_dn_s (k : Nat) : nI k - 1 = hp_dn k := by
  cases k with
  | zero => decide
  | succ k => exact nI_pred k
theorem hp_dn_a (k : Nat) : nI k + (-1) = hp_dn k := by
  cases k with
  | zero => decide
  | succ k => exact pk_m1 k
theorem hp_nm1 {m : Nat} (h : m < 2 ^ 31) : ¬ nI m = -1 := by
  intro z
  have h2 := nI_pos h
  rw [z] at h2
  exact h2 (by decide)
theorem hp_4 : (4 : Int32) = nI 4 := rfl
theorem hp_8 : (8 : Int32) = nI 8 := rfl
theorem hp_sl_snoc (g : Nat → Int32) : ∀ n k : Nat, hp_sl g k (n + 1) = hp_sl g k n ++ [g (k + n)] := by
  intro n
  induction n with
  | zero => intro k; rfl
  | succ n ih =>
    intro k
    show g k :: hp_sl g (k + 1) (n + 1) = g k :: hp_sl g (k + 1) n ++ [g (k + (n + 1))]
    rw [ih (k + 1), show k + 1 + n = k + (n + 1) by omega]
    rfl
theorem hx_prim_t {post : Int32 → Prop} {t : Int32} (h : t < 16) (hp : post 1) : wpX_isPrimitive post () t := br_f (fun z => Int32.not_lt.mpr z h) hp
theorem hx_prim_f {post : Int32 → Prop} {t : Int32} (h : ¬ t < 16) (hp : post 0) : wpX_isPrimitive post () t := br_t (Int32.not_lt.mp h) hp
theorem hx_ap_t {post : Int32 → Prop} {s p n : Int64} (h : hp_ap s p n) (hp : post 1) : wpX_isApplicable post () s p n := br_t h.1 (br_t h.2 hp)
theorem hx_ap_f {post : Int32 → Prop} {s p n : Int64} (h : ¬ hp_ap s p n) (hp : post 0) : wpX_isApplicable post () s p n := br_c (fun h1 => br_f (fun h2 => h ⟨h1, h2⟩) hp) (fun _ => hp)
section
variable {D B M ic : Nat} {ini : Int64} {st : Int32} {e pl d : Nat} {xs : Int64} {xp c : Int32} {s : Int64} {nm : Nat} {o1 o2 o3 o4 mp mn : Nat → Int64} {tk sn sb it pn dc ct cn sc : Nat → Int32} {ss : Nat → Int64} {sp : Nat → Int32}
theorem hx_cnt_t {post : Int32 → St2 → Prop} (h : e < B) (hB : B ≤ 1024) (hp : post 1 (nI D, nI B, nI M, nI ic, ini, st, nI (e + 1), nI pl, nI d, xs, xp, c, s, nI nm, o1, o2, o3, o4, mp, mn, tk, sn, sb, it, pn, dc, ct, cn, sc, ss, sp)) : wpX_countAttempt post (nI D, nI B, nI M, nI ic, ini, st, nI e, nI pl, nI d, xs, xp, c, s, nI nm, o1, o2, o3, o4, mp, mn, tk, sn, sb, it, pn, dc, ct, cn, sc, ss, sp) := br_t (nI_lt h (by omega)) (nm_r (nI_1 e) hp)
theorem hx_cnt_f {post : Int32 → St2 → Prop} (h : e = B) (hB : B ≤ 1024) (hp : post 0 (nI D, nI B, nI M, nI ic, ini, st, nI e, nI pl, nI d, xs, xp, c, s, nI nm, o1, o2, o3, o4, mp, mn, tk, sn, sb, it, pn, dc, ct, cn, sc, ss, sp)) : wpX_countAttempt post (nI D, nI B, nI M, nI ic, ini, st, nI e, nI pl, nI d, xs, xp, c, s, nI nm, o1, o2, o3, o4, mp, mn, tk, sn, sb, it, pn, dc, ct, cn, sc, ss, sp) := br_f (nI_nlt (by omega) (by omega)) hp
theorem hx_back0 {post : Int32 → St2 → Prop} (hp : post 2 (nI D, nI B, nI M, nI ic, ini, st, nI e, nI pl, nI 0, xs, xp, c, s, nI nm, o1, o2, o3, o4, mp, mn, tk, sn, sb, it, pn, dc, ct, cn, sc, ss, sp)) : wpX_goBack post (nI D, nI B, nI M, nI ic, ini, st, nI e, nI pl, nI 0, xs, xp, c, s, nI nm, o1, o2, o3, o4, mp, mn, tk, sn, sb, it, pn, dc, ct, cn, sc, ss, sp) := br_t nI_0 hp
theorem hx_back1 {post : Int32 → St2 → Prop} {c' p' n' : Int32} {s' : Int64} (hd : d < 16) (h1 : sc d = c') (h2 : ss d = s') (h3 : sp d = p') (h4 : dc d + 1 = n') (hp : post 0 (nI D, nI B, nI M, nI ic, ini, st, nI e, p', nI d, xs, xp, c', s', n', o1, o2, o3, o4, mp, mn, tk, sn, sb, it, pn, dc, ct, cn, sc, ss, sp)) : wpX_goBack post (nI D, nI B, nI M, nI ic, ini, st, nI e, nI pl, nI (d + 1), xs, xp, c, s, nI nm, o1, o2, o3, o4, mp, mn, tk, sn, sb, it, pn, dc, ct, cn, sc, ss, sp) := by
  have hc : (nI d).toNatClampNeg = d := nI_clamp (by omega)
  have hi : vp_in (nI d) 16 := vp_in_nI hd (by decide)
  have e1 : sc (nI d).toNatClampNeg = c' := by rw [hc]; exact h1
  have e2 : ss (nI d).toNatClampNeg = s' := by rw [hc]; exact h2
  have e3 : sp (nI d).toNatClampNeg = p' := by rw [hc]; exact h3
  have e4 : dc (nI d).toNatClampNeg + 1 = n' := by rw [hc]; exact h4
  exact br_f (nI_ne0 (Nat.succ_pos d) (by omega)) (nm_r (nI_pred d) ⟨hi, nm_r e1 ⟨hi, nm_r e2 ⟨hi, nm_r e3 ⟨hi, nm_r e4 hp⟩⟩⟩⟩)
theorem hx_op_bud {post : Int32 → St2 → Prop} {t : Int32} (h : e = B) (hB : B ≤ 1024) (hp : post 3 (nI D, nI B, nI M, nI ic, ini, st, nI e, nI pl, nI d, xs, xp, c, s, nI nm, o1, o2, o3, o4, mp, mn, tk, sn, sb, it, pn, dc, ct, cn, sc, ss, sp)) : wpX_tryOperator post (nI D, nI B, nI M, nI ic, ini, st, nI e, nI pl, nI d, xs, xp, c, s, nI nm, o1, o2, o3, o4, mp, mn, tk, sn, sb, it, pn, dc, ct, cn, sc, ss, sp) t := by
  unfold wpX_tryOperator
  exact hx_cnt_f h hB (br_t rfl hp)
theorem hx_op_ok {post : Int32 → St2 → Prop} {t : Int32} {j q : Nat} (ht : t = nI j) (hj : j < 16) (hB : B ≤ 1024) (he : e < B) (hpl : pl < 32) (ha : hp_ap s (o1 t.toNatClampNeg) (o2 t.toNatClampNeg)) (hq : q < 72) (hp : post 0 (nI D, nI B, nI M, nI ic, ini, st, nI (e + 1), nI (pl + 1), nI d, xs, xp, cn q, (s &&& (o4 t.toNatClampNeg ^^^ (-1))) ||| o3 t.toNatClampNeg, nI nm, o1, o2, o3, o4, mp, mn, tk, sn, sb, it, upd pn pl t, dc, ct, cn, sc, ss, sp)) : wpX_tryOperator post (nI D, nI B, nI M, nI ic, ini, st, nI e, nI pl, nI d, xs, xp, nI q, s, nI nm, o1, o2, o3, o4, mp, mn, tk, sn, sb, it, pn, dc, ct, cn, sc, ss, sp) t := by
  have hcp : upd pn (nI pl).toNatClampNeg t = upd pn pl t := by rw [nI_clamp (by omega)]
  have hcq : cn (nI q).toNatClampNeg = cn q := by rw [nI_clamp (by omega)]
  have hi : vp_in t 16 := by rw [ht]; exact vp_in_nI hj (by decide)
  unfold wpX_tryOperator
  refine hx_cnt_t he hB (br_f (by decide) (br_f (nI_ge (b := 32) hpl (by decide)) ⟨hi, hi, ?_⟩))
  refine hx_ap_t ha (br_f (by decide) ⟨vp_in_nI hpl (by decide), nm_r hcp (nm_r (nI_1 pl) ?_)⟩)
  exact ⟨hi, hi, ⟨vp_in_nI hq (by decide), nm_r hcq hp⟩⟩
theorem hx_op_bk {post : Int32 → St2 → Prop} {t : Int32} {j : Nat} (ht : t = nI j) (hj : j < 16) (hB : B ≤ 1024) (he : e < B) (hpl : pl ≤ 32) (hn : ¬ (pl < 32 ∧ hp_ap s (o1 t.toNatClampNeg) (o2 t.toNatClampNeg))) (hg : wX_tryOperator_40 post (nI D) (nI B) (nI M) (nI ic) ini st (nI (e + 1)) (nI pl) (nI d) xs xp c s (nI nm) o1 o2 o3 o4 mp mn tk sn sb it pn dc ct cn sc ss sp) : wpX_tryOperator post (nI D, nI B, nI M, nI ic, ini, st, nI e, nI pl, nI d, xs, xp, c, s, nI nm, o1, o2, o3, o4, mp, mn, tk, sn, sb, it, pn, dc, ct, cn, sc, ss, sp) t := by
  have hi : vp_in t 16 := by rw [ht]; exact vp_in_nI hj (by decide)
  unfold wpX_tryOperator
  by_cases h32 : pl < 32
  · exact hx_cnt_t he hB (br_f (by decide) (br_f (nI_ge (b := 32) h32 (by decide)) ⟨hi, hi, hx_ap_f (fun z => hn ⟨h32, z⟩) (br_t rfl hg)⟩))
  · exact hx_cnt_t he hB (br_f (by decide) (br_t (nI_le (a := 32) (by omega) (by omega)) hg))
theorem hx_find_t {post : Int32 → Prop} {t : Int32} {m : Nat} (hM : M ≤ 32) (hm : m < M) (ht : tk m = t) (hp : post (nI m)) : ∀ (k j : Nat), j + k = m → (∀ i, j ≤ i → i < m → tk i ≠ t) → wX_findMethod_2 post t (nI D) (nI B) (nI M) (nI ic) ini st (nI e) (nI pl) (nI d) xs xp c s (nI nm) o1 o2 o3 o4 mp mn tk sn sb it pn dc ct cn sc ss sp (k + 1) (nI j) := by
  intro k
  induction k with
  | zero =>
    intro j hj _
    have hj' : j = m := by omega
    rw [hj']
    exact br_f (nI_ge hm (by omega)) ⟨vp_in_nI (by omega) (by decide), br_t (by rw [nI_clamp (by omega)]; exact ht) hp⟩
  | succ k ih =>
    intro j hj hne
    exact br_f (nI_ge (by omega) (by omega)) ⟨vp_in_nI (by omega) (by decide), br_f (by rw [nI_clamp (by omega)]; exact hne j (Nat.le_refl j) (by omega)) (nm_r (nI_1 j) (ih (j + 1) (by omega) (fun i a b => hne i (by omega) b)))⟩
theorem hx_find_f {post : Int32 → Prop} {t : Int32} (hM : M ≤ 32) (hp : post (-1)) : ∀ (k j : Nat), M ≤ j + k → j ≤ 32 → (∀ i, j ≤ i → i < M → tk i ≠ t) → wX_findMethod_2 post t (nI D) (nI B) (nI M) (nI ic) ini st (nI e) (nI pl) (nI d) xs xp c s (nI nm) o1 o2 o3 o4 mp mn tk sn sb it pn dc ct cn sc ss sp (k + 1) (nI j) := by
  intro k
  induction k with
  | zero =>
    intro j hj h32 _
    exact br_t (nI_le (by omega) (by omega)) hp
  | succ k ih =>
    intro j hj h32 hne
    by_cases hMj : M ≤ j
    · exact br_t (nI_le hMj (by omega)) hp
    · exact br_f (nI_ge (by omega) (by omega)) ⟨vp_in_nI (by omega) (by decide), br_f (by rw [nI_clamp (by omega)]; exact hne j (Nat.le_refl j) (by omega)) (nm_r (nI_1 j) (ih (j + 1) (by omega) (by omega) (fun i a b => hne i (by omega) b)))⟩
theorem hx_fT {post : Int32 → Prop} {t : Int32} {m : Nat} (hM : M ≤ 32) (hm : m < M) (hf : hp_fs tk t nm m) (hp : post (nI m)) : wpX_findMethod post (nI D, nI B, nI M, nI ic, ini, st, nI e, nI pl, nI d, xs, xp, c, s, nI nm, o1, o2, o3, o4, mp, mn, tk, sn, sb, it, pn, dc, ct, cn, sc, ss, sp) t (nI nm) := ⟨m - nm + 1, hx_find_t hM hm hf.2.1 hp (m - nm) nm (by have := hf.1; omega) hf.2.2⟩
theorem hx_fF {post : Int32 → Prop} {t : Int32} (hM : M ≤ 32) (hnm : nm ≤ 32) (hf : ∀ j, nm ≤ j → j < M → tk j ≠ t) (hp : post (-1)) : wpX_findMethod post (nI D, nI B, nI M, nI ic, ini, st, nI e, nI pl, nI d, xs, xp, c, s, nI nm, o1, o2, o3, o4, mp, mn, tk, sn, sb, it, pn, dc, ct, cn, sc, ss, sp) t (nI nm) := ⟨M + 1, hx_find_f hM hp M nm (by omega) hnm hf⟩
theorem hx_put {post : St2 → Prop} {x t t' : Int32} {q : Nat} (hx : x = nI q) (ht : t = t') (hq : q < 72) (hp : post (nI D, nI B, nI M, nI ic, ini, st, nI e, nI pl, nI d, xs, xp, nI q, s, nI nm, o1, o2, o3, o4, mp, mn, tk, sn, sb, it, pn, dc, upd ct q t', upd cn q c, sc, ss, sp)) : wpX_putFirst post (nI D, nI B, nI M, nI ic, ini, st, nI e, nI pl, nI d, xs, xp, c, s, nI nm, o1, o2, o3, o4, mp, mn, tk, sn, sb, it, pn, dc, ct, cn, sc, ss, sp) x t := by
  subst hx ht
  have e1 : upd ct (nI q).toNatClampNeg t = upd ct q t := by rw [nI_clamp (by omega)]
  have e2 : upd cn (nI q).toNatClampNeg c = upd cn q c := by rw [nI_clamp (by omega)]
  have hi : vp_in (nI q) 72 := vp_in_nI hq (by decide)
  exact ⟨hi, nm_r e1 ⟨hi, nm_r e2 hp⟩⟩
end
end
section
section
variable {D B M ic : Nat} {ini : Int64} {st : Int32} {e pl d : Nat} {xs : Int64} {xp c : Int32} {s : Int64} {nm : Nat} {o1 o2 o3 o4 mp mn : Nat → Int64} {tk sn sb it pn dc ct cn sc : Nat → Int32} {ss : Nat → Int64} {sp : Nat → Int32}
theorem hx_appl {post : St2 → Prop} {m own : Nat} (hm : m < 32) (ho : own + 4 ≤ 72) : ∀ (k : Nat) (c : Int32) (ct cn : Nat → Int32) (L : List Int32), k ≤ 4 → hp_ch (fun j => j < own ∨ (own + k ≤ j ∧ j < own + 4)) ct cn c L → (∀ (c' : Int32) (ct' cn' : Nat → Int32), hp_ch (fun j => j < own + 4) ct' cn' c' (hp_sl (fun i => sb (m * 4 + i)) 0 k ++ L) → (∀ j, j < own → ct' j = ct j ∧ cn' j = cn j) → post (nI D, nI B, nI M, nI ic, ini, st, nI e, nI pl, nI d, xs, xp, c', s, nI nm, o1, o2, o3, o4, mp, mn, tk, sn, sb, it, pn, dc, ct', cn', sc, ss, sp)) → wX_applyMethod_84 post (nI m) (nI own) (k + 1) (hp_dn k) (nI D) (nI B) (nI M) (nI ic) ini st (nI e) (nI pl) (nI d) xs xp c s (nI nm) o1 o2 o3 o4 mp mn tk sn sb it pn dc ct cn sc ss sp := by
  intro k
  induction k with
  | zero =>
    intro c ct cn L _ hch hp
    refine br_t (show (-1 : Int32) < 0 by decide) (hp c ct cn (hp_ch_w (fun j hj => ⟨?_, rfl, rfl⟩) L c hch) (fun j _ => ⟨rfl, rfl⟩))
    have h : j < own ∨ (own + 0 ≤ j ∧ j < own + 4) := hj
    show j < own + 4
    omega
  | succ k ih =>
    intro c ct cn L hk hch hp
    have hix : nI m * 4 + nI k = nI (m * 4 + k) := by rw [hp_4, pk_mul, nI_add]
    have ht : sb (nI m * 4 + nI k).toNatClampNeg = sb (m * 4 + k) := by rw [hix, nI_clamp (by omega)]
    refine br_f (nI_pos (by omega)) ⟨?_, ?_⟩
    · show vp_in (nI m * 4 + nI k) 128
      rw [hix]
      exact vp_in_nI (by omega) (by decide)
    · refine hx_put (nI_add own k) ht (by omega) (nm_r (hp_dn_a k) ?_)
      refine ih (nI (own + k)) (upd ct (own + k) (sb (m * 4 + k))) (upd cn (own + k) c) (sb (m * 4 + k) :: L) (by omega) ?_ ?_
      · refine hp_ch_put hch ?_ ?_ ?_ (by omega)
        · show ¬ (own + k < own ∨ (own + (k + 1) ≤ own + k ∧ own + k < own + 4))
          omega
        · intro j hj
          have h : j < own ∨ (own + (k + 1) ≤ j ∧ j < own + 4) := hj
          show j < own ∨ (own + k ≤ j ∧ j < own + 4)
          omega
        · show own + k < own ∨ (own + k ≤ own + k ∧ own + k < own + 4)
          omega
      · intro c' ct' cn' h1 h2
        refine hp c' ct' cn' ?_ ?_
        · rw [hp_sl_snoc, List.append_assoc, Nat.zero_add]
          exact h1
        · intro j hj
          obtain ⟨a, b⟩ := h2 j hj
          have hne : j ≠ own + k := by omega
          exact ⟨a.trans (pk_un hne), b.trans (pk_un hne)⟩
theorem hx_apply {post : St2 → Prop} {m q cnt : Nat} {L : List Int32} (hm : m < 32) (hd : d < 16) (hq : q < 72) (hsn : sn m = nI cnt) (hcnt : cnt ≤ 4) (hch : hp_ch (fun j => j < 8 + 4 * d) ct cn (cn q) L) (hp : ∀ (c' : Int32) (ct' cn' : Nat → Int32), hp_ch (fun j => j < 8 + 4 * (d + 1)) ct' cn' c' (hp_sl (fun i => sb (m * 4 + i)) 0 cnt ++ L) → (∀ j, j < 8 + 4 * d → ct' j = ct j ∧ cn' j = cn j) → post (nI D, nI B, nI M, nI ic, ini, st, nI e, nI pl, nI (d + 1), xs, xp, c', s, nI 0, o1, o2, o3, o4, mp, mn, tk, sn, sb, it, pn, upd dc d (nI m), ct', cn', upd sc d (nI q), vp_updL ss d s, upd sp d (nI pl))) : wpX_applyMethod post (nI D, nI B, nI M, nI ic, ini, st, nI e, nI pl, nI d, xs, xp, nI q, s, nI nm, o1, o2, o3, o4, mp, mn, tk, sn, sb, it, pn, dc, ct, cn, sc, ss, sp) (nI m) := by
  have hcd : (nI d).toNatClampNeg = d := nI_clamp (by omega)
  have hcm : (nI m).toNatClampNeg = m := nI_clamp (by omega)
  have hcq : (nI q).toNatClampNeg = q := nI_clamp (by omega)
  have hi : vp_in (nI d) 16 := vp_in_nI hd (by decide)
  have e1 : upd sc (nI d).toNatClampNeg (nI q) = upd sc d (nI q) := by rw [hcd]
  have e2 : vp_updL ss (nI d).toNatClampNeg s = vp_updL ss d s := by rw [hcd]
  have e3 : upd sp (nI d).toNatClampNeg (nI pl) = upd sp d (nI pl) := by rw [hcd]
  have e4 : upd dc (nI d).toNatClampNeg (nI m) = upd dc d (nI m) := by rw [hcd]
  have e5 : (8 : Int32) + nI d * 4 = nI (8 + 4 * d) := by rw [hp_4, hp_8, pk_mul, nI_add, Nat.mul_comm d 4]
  have e6 : cn (nI q).toNatClampNeg = cn q := by rw [hcq]
  have e7 : sn (nI m).toNatClampNeg - 1 = hp_dn cnt := by rw [hcm, hsn, hp_dn_s]
  refine ⟨hi, nm_r e1 ⟨hi, nm_r e2 ⟨hi, nm_r e3 ⟨hi, nm_r e4 (nm_r (nI_1 d) (nm_r e5 ⟨vp_in_nI hq (by decide), nm_r e6 ⟨vp_in_nI hm (by decide), nm_r e7 ⟨cnt + 1, ?_⟩⟩⟩))⟩⟩⟩⟩
  refine hx_appl hm (by omega) cnt (cn q) ct cn L hcnt (hp_ch_w (fun j hj => ⟨Or.inl hj, rfl, rfl⟩) L _ hch) (fun c' ct' cn' h1 h2 => hp c' ct' cn' ?_ h2)
  rw [show 8 + 4 * (d + 1) = 8 + 4 * d + 4 by omega]
  exact h1
theorem hx_sl {post : St2 → Prop} : ∀ (k : Nat) (c : Int32) (ct cn : Nat → Int32) (L : List Int32), k ≤ 8 → hp_ch (fun j => k ≤ j ∧ j < 8) ct cn c L → (∀ (c' : Int32) (ct' cn' : Nat → Int32), hp_ch (fun j => j < 8) ct' cn' c' (hp_sl it 0 k ++ L) → post (nI D, nI B, nI M, nI ic, ini, st, nI e, nI pl, nI d, xs, xp, c', s, nI nm, o1, o2, o3, o4, mp, mn, tk, sn, sb, it, pn, dc, ct', cn', sc, ss, sp)) → wX_startSearch_25 post (k + 1) (hp_dn k) (nI D) (nI B) (nI M) (nI ic) ini st (nI e) (nI pl) (nI d) xs xp c s (nI nm) o1 o2 o3 o4 mp mn tk sn sb it pn dc ct cn sc ss sp := by
  intro k
  induction k with
  | zero =>
    intro c ct cn L _ hch hp
    refine br_t (show (-1 : Int32) < 0 by decide) (hp c ct cn (hp_ch_w (fun j hj => ⟨?_, rfl, rfl⟩) L c hch))
    have h : 0 ≤ j ∧ j < 8 := hj
    exact h.2
  | succ k ih =>
    intro c ct cn L hk hch hp
    have ht : it (nI k).toNatClampNeg = it k := by rw [nI_clamp (by omega)]
    refine br_f (nI_pos (by omega)) ⟨vp_in_nI (by omega) (by decide), ?_⟩
    refine hx_put rfl ht (by omega) (nm_r (hp_dn_a k) ?_)
    refine ih (nI k) (upd ct k (it k)) (upd cn k c) (it k :: L) (by omega) ?_ ?_
    · refine hp_ch_put hch ?_ ?_ ?_ (by omega)
      · show ¬ (k + 1 ≤ k ∧ k < 8)
        omega
      · intro j hj
        have h : k + 1 ≤ j ∧ j < 8 := hj
        show k ≤ j ∧ j < 8
        omega
      · show k ≤ k ∧ k < 8
        omega
    · intro c' ct' cn' h1
      refine hp c' ct' cn' ?_
      rw [hp_sl_snoc, List.append_assoc, Nat.zero_add]
      exact h1
theorem hx_start {post : St2 → Prop} {gn : Int32} (hic : ic ≤ 8) (hp : ∀ (c' : Int32) (ct' cn' : Nat → Int32), hp_ch (fun j => j < 8) ct' cn' c' (hp_sl it 0 ic) → post (nI D, nI B, nI M, nI ic, ini, st, nI e, nI pl, nI d, xs, xp, c', ini, nI 0, o1, o2, o3, o4, mp, mn, tk, sn, sb, it, pn, dc, ct', cn', sc, ss, sp)) : wpX_startSearch post (nI D, nI B, nI M, nI ic, ini, st, nI e, nI pl, nI d, xs, xp, c, s, gn, o1, o2, o3, o4, mp, mn, tk, sn, sb, it, pn, dc, ct, cn, sc, ss, sp) := by
  refine nm_r (hp_dn_s ic) ⟨ic + 1, hx_sl ic (-1) ct cn [] hic rfl (fun c' ct' cn' h => hp c' ct' cn' ?_)⟩
  rw [List.append_nil] at h
  exact h
theorem hx_nm_f0 {post : Int32 → St2 → Prop} {t : Int32} (hM : M ≤ 32) (hnm : nm ≤ 32) (hf : ∀ j, nm ≤ j → j < M → tk j ≠ t) (hp : post 2 (nI D, nI B, nI M, nI ic, ini, st, nI e, nI pl, nI 0, xs, xp, c, s, nI nm, o1, o2, o3, o4, mp, mn, tk, sn, sb, it, pn, dc, ct, cn, sc, ss, sp)) : wpX_tryNextMethod post (nI D, nI B, nI M, nI ic, ini, st, nI e, nI pl, nI 0, xs, xp, c, s, nI nm, o1, o2, o3, o4, mp, mn, tk, sn, sb, it, pn, dc, ct, cn, sc, ss, sp) t := by
  unfold wpX_tryNextMethod
  exact hx_fF hM hnm hf (br_t rfl (hx_back0 hp))
theorem hx_nm_f1 {post : Int32 → St2 → Prop} {t c' p' n' : Int32} {s' : Int64} (hM : M ≤ 32) (hnm : nm ≤ 32) (hf : ∀ j, nm ≤ j → j < M → tk j ≠ t) (hd : d < 16) (h1 : sc d = c') (h2 : ss d = s') (h3 : sp d = p') (h4 : dc d + 1 = n') (hp : post 0 (nI D, nI B, nI M, nI ic, ini, st, nI e, p', nI d, xs, xp, c', s', n', o1, o2, o3, o4, mp, mn, tk, sn, sb, it, pn, dc, ct, cn, sc, ss, sp)) : wpX_tryNextMethod post (nI D, nI B, nI M, nI ic, ini, st, nI e, nI pl, nI (d + 1), xs, xp, c, s, nI nm, o1, o2, o3, o4, mp, mn, tk, sn, sb, it, pn, dc, ct, cn, sc, ss, sp) t := by
  unfold wpX_tryNextMethod
  exact hx_fF hM hnm hf (br_t rfl (hx_back1 hd h1 h2 h3 h4 hp))
theorem hx_nm_bud {post : Int32 → St2 → Prop} {t : Int32} {m : Nat} (hM : M ≤ 32) (hm : m < M) (hf : hp_fs tk t nm m) (h : e = B) (hB : B ≤ 1024) (hp : post 3 (nI D, nI B, nI M, nI ic, ini, st, nI e, nI pl, nI d, xs, xp, c, s, nI nm, o1, o2, o3, o4, mp, mn, tk, sn, sb, it, pn, dc, ct, cn, sc, ss, sp)) : wpX_tryNextMethod post (nI D, nI B, nI M, nI ic, ini, st, nI e, nI pl, nI d, xs, xp, c, s, nI nm, o1, o2, o3, o4, mp, mn, tk, sn, sb, it, pn, dc, ct, cn, sc, ss, sp) t := by
  unfold wpX_tryNextMethod
  exact hx_fT hM hm hf (br_f (hp_nm1 (by omega)) (hx_cnt_f h hB (br_t rfl hp)))
theorem hx_nm_skip {post : Int32 → St2 → Prop} {t : Int32} {m : Nat} (hM : M ≤ 32) (hm : m < M) (hf : hp_fs tk t nm m) (he : e < B) (hB : B ≤ 1024) (hD : D ≤ 16) (hd : d ≤ 16) (hn : ¬ (d < D ∧ hp_ap s (mp m) (mn m))) (hp : post 0 (nI D, nI B, nI M, nI ic, ini, st, nI (e + 1), nI pl, nI d, xs, xp, c, s, nI (m + 1), o1, o2, o3, o4, mp, mn, tk, sn, sb, it, pn, dc, ct, cn, sc, ss, sp)) : wpX_tryNextMethod post (nI D, nI B, nI M, nI ic, ini, st, nI e, nI pl, nI d, xs, xp, c, s, nI nm, o1, o2, o3, o4, mp, mn, tk, sn, sb, it, pn, dc, ct, cn, sc, ss, sp) t := by
  unfold wpX_tryNextMethod
  have hi : vp_in (nI m) 32 := vp_in_nI (by omega) (by decide)
  by_cases hdD : d < D
  · exact hx_fT hM hm hf (br_f (hp_nm1 (by omega)) (hx_cnt_t he hB (br_f (by decide) (br_f (nI_ge hdD (by omega)) ⟨hi, hi, hx_ap_f (by rw [nI_clamp (by omega)]; exact fun z => hn ⟨hdD, z⟩) (br_t rfl (nm_r (nI_1 m) hp))⟩))))
  · exact hx_fT hM hm hf (br_f (hp_nm1 (by omega)) (hx_cnt_t he hB (br_f (by decide) (br_t (nI_le (by omega) (by omega)) (nm_r (nI_1 m) hp)))))
theorem hx_nm_app {post : Int32 → St2 → Prop} {t : Int32} {m q cnt : Nat} {L : List Int32} (hM : M ≤ 32) (hm : m < M) (hf : hp_fs tk t nm m) (he : e < B) (hB : B ≤ 1024) (hD : D ≤ 16) (hdD : d < D) (ha : hp_ap s (mp m) (mn m)) (hq : q < 72) (hsn : sn m = nI cnt) (hcnt : cnt ≤ 4) (hch : hp_ch (fun j => j < 8 + 4 * d) ct cn (cn q) L) (hp : ∀ (c' : Int32) (ct' cn' : Nat → Int32), hp_ch (fun j => j < 8 + 4 * (d + 1)) ct' cn' c' (hp_sl (fun i => sb (m * 4 + i)) 0 cnt ++ L) → (∀ j, j < 8 + 4 * d → ct' j = ct j ∧ cn' j = cn j) → post 0 (nI D, nI B, nI M, nI ic, ini, st, nI (e + 1), nI pl, nI (d + 1), xs, xp, c', s, nI 0, o1, o2, o3, o4, mp, mn, tk, sn, sb, it, pn, upd dc d (nI m), ct', cn', upd sc d (nI q), vp_updL ss d s, upd sp d (nI pl))) : wpX_tryNextMethod post (nI D, nI B, nI M, nI ic, ini, st, nI e, nI pl, nI d, xs, xp, nI q, s, nI nm, o1, o2, o3, o4, mp, mn, tk, sn, sb, it, pn, dc, ct, cn, sc, ss, sp) t := by
  unfold wpX_tryNextMethod
  have hi : vp_in (nI m) 32 := vp_in_nI (by omega) (by decide)
  have hc : (nI m).toNatClampNeg = m := nI_clamp (by omega)
  refine hx_fT hM hm hf (br_f (hp_nm1 (by omega)) (hx_cnt_t he hB (br_f (by decide) (br_f (nI_ge hdD (by omega)) ⟨hi, hi, hx_ap_t (by rw [hc]; exact ha) (br_f (by decide) ?_)⟩))))
  exact hx_apply (by omega) (by omega) hq hsn hcnt hch hp
theorem hx_end {post : Int32 → St2 → Prop} {r y : Int32} {n : Nat} (hr : ¬ r = 0) (hp : post r (nI D, nI B, nI M, nI ic, ini, st, nI e, nI pl, nI d, xs, xp, c, s, nI nm, o1, o2, o3, o4, mp, mn, tk, sn, sb, it, pn, dc, ct, cn, sc, ss, sp)) : wX_search_4 post (n + 1) r y (nI D) (nI B) (nI M) (nI ic) ini st (nI e) (nI pl) (nI d) xs xp c s (nI nm) o1 o2 o3 o4 mp mn tk sn sb it pn dc ct cn sc ss sp := br_c (fun _ => hp) (fun _ => br_f hr hp)
end
def hq_mo (FP : Nat → Nat) (d pl : Nat) : Prop := (∀ j, j < d → FP j ≤ pl) ∧ ∀ i j, i < j → j < d → FP i ≤ FP j
theorem hq_mo_op {FP : Nat → Nat} {d pl : Nat} (h : hq_mo FP d pl) : hq_mo FP d (pl + 1) := ⟨fun j hj => Nat.le_succ_of_le (h.1 j hj), h.2⟩
theorem hq_mo_bk {FP : Nat → Nat} {d pl : Nat} (h : hq_mo FP (d + 1) pl) : hq_mo FP d (FP d) := ⟨fun j hj => h.2 j d hj (Nat.lt_succ_self d), fun i j a b => h.2 i j a (by omega)⟩
theorem hq_mo_app {FP : Nat → Nat} {d pl : Nat} (h : hq_mo FP d pl) : hq_mo (hp_up FP d pl) (d + 1) pl := by
  refine ⟨fun j hj => ?_, fun i j a b => ?_⟩
  · by_cases e : j = d
    · rw [e, hp_us]; exact Nat.le_refl pl
    · rw [hp_un e]; exact h.1 j (by omega)
  · by_cases e : j = d
    · rw [e, hp_us, hp_un (by omega)]; exact h.1 i (by omega)
    · rw [hp_un e, hp_un (by omega)]; exact h.2 i j a (by omega)
theorem hq_ag_u {f g : Nat → Int32} {n : Nat} {x : Int32} (h : ∀ i, i < n → f i = g i) : ∀ i, i < n + 1 → upd f n x i = upd g n x i := by
  intro i hi
  by_cases e : i = n
  · rw [e, pk_us, pk_us]
  · rw [pk_un e, pk_un e]; exact h i (by omega)
def hp_XG (D B M ic : Nat) (ini : Int64) (st : Int32) (xs : Int64) (xp : Int32) (o1 o2 o3 o4 mp mn : Nat → Int64) (tk sn sb it : Nat → Int32) : hp_G := fun R k L s pl nm e d FL FS FP pn dc =>
  ∀ (pnx dcx : Nat → Int32), hp_nb 16 pnx → hp_nb 32 dcx → (∀ i, i < pl → pnx i = pn i) → (∀ i, i < d → dcx i = dc i) → hq_mo FP d pl → ∀ (c : Int32) (ct cn sc : Nat → Int32) (ss : Nat → Int64) (sp : Nat → Int32), hp_ch (fun j => j < 8 + 4 * d) ct cn c L → (∀ i, i < d → hp_X1 ct cn sc ss sp i (FL i) (FS i) (FP i)) → ∀ (n x : Nat) (post : Int32 → St2 → Prop), k < n → x + k < 1000000 → (∀ (c : Int32) (s : Int64) (nm : Int32) (ct cn sc : Nat → Int32) (ss : Nat → Int64) (sp pnx dcx : Nat → Int32), hp_nb 16 pnx → hp_nb 32 dcx → (∀ i, i < R.2.1 → pnx i = R.2.2.2.2.1 i) → (∀ i, i < R.2.2.1 → dcx i = R.2.2.2.2.2 i) → post R.1 (nI D, nI B, nI M, nI ic, ini, st, nI R.2.2.2.1, nI R.2.1, nI R.2.2.1, xs, xp, c, s, nm, o1, o2, o3, o4, mp, mn, tk, sn, sb, it, pnx, dcx, ct, cn, sc, ss, sp)) → wX_search_4 post n 0 (nI x) (nI D) (nI B) (nI M) (nI ic) ini st (nI e) (nI pl) (nI d) xs xp c s (nI nm) o1 o2 o3 o4 mp mn tk sn sb it pnx dcx ct cn sc ss sp
section
variable {D B M ic : Nat} {ini : Int64} {st : Int32} {xs : Int64} {xp : Int32} {o1 o2 o3 o4 mp mn : Nat → Int64} {tk sn sb it : Nat → Int32}
theorem hx_R1 : hp_R1 B D (hp_XG D B M ic ini st xs xp o1 o2 o3 o4 mp mn tk sn sb it) := by
  intro k s pl nm e d FL FS FP pn dc hW pnx dcx np nd ap ad mo c ct cn sc ss sp hch hf n x post hn hx hp
  obtain ⟨n, rfl⟩ : ∃ n', n = n' + 2 := ⟨n - 2, by omega⟩
  exact br_f (nI_ge (b := 1000000) (by omega) (by decide)) (br_t rfl (br_t hch (nm_r (nI_1 x) (hx_end (by decide) (hp c s (nI nm) ct cn sc ss sp pnx dcx np nd ap ad)))))
theorem hx_R2 (hB : B ≤ 1024) : hp_R2 B D (hp_XG D B M ic ini st xs xp o1 o2 o3 o4 mp mn tk sn sb it) := by
  intro k t L s pl nm e d FL FS FP pn dc hW h16 hb pnx dcx np nd ap ad mo c ct cn sc ss sp hch hf n x post hn hx hp
  obtain ⟨q, hq8, hq, hc, hct, hr⟩ := hch
  subst hc
  obtain ⟨n, rfl⟩ : ∃ n', n = n' + 2 := ⟨n - 2, by omega⟩
  have hT : ct (nI q).toNatClampNeg = t := by rw [nI_clamp (by omega)]; exact hct
  have hi : vp_in (nI q) 72 := vp_in_nI hq (by decide)
  refine br_f (nI_ge (b := 1000000) (by omega) (by decide)) (br_t rfl (br_f (hp_nm1 (by omega)) ⟨hi, ?_⟩))
  rw [hT]
  exact hx_prim_t h16 (br_f (by decide) ⟨hi, hx_op_bud hb hB (nm_r (nI_1 x) (hx_end (by decide) (hp (nI q) s (nI nm) ct cn sc ss sp pnx dcx np nd ap ad)))⟩)
theorem hx_R3 (hB : B ≤ 1024) : hp_R3 B D (fun s j => hp_ap s (o1 j) (o2 j)) (fun s j => (s &&& (o4 j ^^^ (-1))) ||| o3 j) (hp_XG D B M ic ini st xs xp o1 o2 o3 o4 mp mn tk sn sb it) := by
  intro R k t L s pl nm e d FL FS FP pn dc hW h16 he hpl hok hG pnx dcx np nd ap ad mo c ct cn sc ss sp hch hf n x post hn hx hp
  obtain ⟨q, hq8, hq, hc, hct, hr⟩ := hch
  subst hc
  obtain ⟨n, rfl⟩ : ∃ n', n = n' + 1 := ⟨n - 1, by omega⟩
  obtain ⟨j, hj, ht⟩ := hp_vt_lt (hW.1.1 t List.mem_cons_self) h16
  have hT : ct (nI q).toNatClampNeg = t := by rw [nI_clamp (by omega)]; exact hct
  have hi : vp_in (nI q) 72 := vp_in_nI hq (by decide)
  refine br_f (nI_ge (b := 1000000) (by omega) (by decide)) (br_t rfl (br_f (hp_nm1 (by omega)) ⟨hi, ?_⟩))
  rw [hT]
  exact hx_prim_t h16 (br_f (by decide) ⟨hi, hx_op_ok ht hj hB he hpl hok hq (nm_r (nI_1 x) (hG _ dcx (hp_nb_u np pl ⟨j, hj, ht⟩) nd (hq_ag_u ap) ad (hq_mo_op mo) _ ct cn sc ss sp hr hf n (x + 1) post (by omega) (by omega) hp))⟩)
theorem hx_R4 (hB : B ≤ 1024) : hp_R4 B D (fun s j => hp_ap s (o1 j) (o2 j)) (hp_XG D B M ic ini st xs xp o1 o2 o3 o4 mp mn tk sn sb it) := by
  intro k t L s pl nm e FL FS FP pn dc hW h16 he hok pnx dcx np nd ap ad mo c ct cn sc ss sp hch hf n x post hn hx hp
  obtain ⟨q, hq8, hq, hc, hct, hr⟩ := hch
  subst hc
  obtain ⟨n, rfl⟩ : ∃ n', n = n' + 2 := ⟨n - 2, by omega⟩
  obtain ⟨j, hj, ht⟩ := hp_vt_lt (hW.1.1 t List.mem_cons_self) h16
  have hT : ct (nI q).toNatClampNeg = t := by rw [nI_clamp (by omega)]; exact hct
  have hi : vp_in (nI q) 72 := vp_in_nI hq (by decide)
  refine br_f (nI_ge (b := 1000000) (by omega) (by decide)) (br_t rfl (br_f (hp_nm1 (by omega)) ⟨hi, ?_⟩))
  rw [hT]
  exact hx_prim_t h16 (br_f (by decide) ⟨hi, hx_op_bk ht hj hB he hW.2.1.1 hok (hx_back0 (nm_r (nI_1 x) (hx_end (by decide) (hp (nI q) s (nI nm) ct cn sc ss sp pnx dcx np nd ap ad))))⟩)
theorem hx_R5 (hB : B ≤ 1024) (hD : D ≤ 16) : hp_R5 B D (fun s j => hp_ap s (o1 j) (o2 j)) (hp_XG D B M ic ini st xs xp o1 o2 o3 o4 mp mn tk sn sb it) := by
  intro R k t L s pl nm e d FL FS FP pn dc hW h16 he hok hG pnx dcx np nd ap ad mo c ct cn sc ss sp hch hf n x post hn hx hp
  obtain ⟨q, hq8, hq, hc, hct, hr⟩ := hch
  subst hc
  obtain ⟨n, rfl⟩ : ∃ n', n = n' + 1 := ⟨n - 1, by omega⟩
  obtain ⟨j, hj, ht⟩ := hp_vt_lt (hW.1.1 t List.mem_cons_self) h16
  have hT : ct (nI q).toNatClampNeg = t := by rw [nI_clamp (by omega)]; exact hct
  have hi : vp_in (nI q) 72 := vp_in_nI hq (by decide)
  have hd : d < 16 := by have := hW.2.1.2.2.2; omega
  obtain ⟨f1, f2, f3⟩ := hf d (Nat.lt_succ_self d)
  have f4 : dcx d + 1 = nI ((dc d).toNatClampNeg + 1) := by rw [ad d (Nat.lt_succ_self d), ← nI_1, ← (hp_nb_c hW.2.2.2.2 (Nat.le_refl 32) d).2]
  have hle : FP d ≤ pl := mo.1 d (Nat.lt_succ_self d)
  refine br_f (nI_ge (b := 1000000) (by omega) (by decide)) (br_t rfl (br_f (hp_nm1 (by omega)) ⟨hi, ?_⟩))
  rw [hT]
  exact hx_prim_t h16 (br_f (by decide) ⟨hi, hx_op_bk ht hj hB he hW.2.1.1 hok (hx_back1 hd rfl f1 f2 f4 (nm_r (nI_1 x) (hG pnx dcx np nd (fun i hi => ap i (by omega)) (fun i hi => ad i (by omega)) (hq_mo_bk mo) (sc d) ct cn sc ss sp f3 (fun i hi => hf i (by omega)) n (x + 1) post (by omega) (by omega) hp)))⟩)
theorem hx_R6 (hM : M ≤ 32) : hp_R6 B D M tk (hp_XG D B M ic ini st xs xp o1 o2 o3 o4 mp mn tk sn sb it) := by
  intro k t L s pl nm e FL FS FP pn dc hW h16 hnf pnx dcx np nd ap ad mo c ct cn sc ss sp hch hf n x post hn hx hp
  obtain ⟨q, hq8, hq, hc, hct, hr⟩ := hch
  subst hc
  obtain ⟨n, rfl⟩ : ∃ n', n = n' + 2 := ⟨n - 2, by omega⟩
  have hT : ct (nI q).toNatClampNeg = t := by rw [nI_clamp (by omega)]; exact hct
  have hi : vp_in (nI q) 72 := vp_in_nI hq (by decide)
  refine br_f (nI_ge (b := 1000000) (by omega) (by decide)) (br_t rfl (br_f (hp_nm1 (by omega)) ⟨hi, ?_⟩))
  rw [hT]
  exact hx_prim_f h16 (br_t rfl ⟨hi, hx_nm_f0 hM hW.2.1.2.1 hnf (nm_r (nI_1 x) (hx_end (by decide) (hp (nI q) s (nI nm) ct cn sc ss sp pnx dcx np nd ap ad)))⟩)
theorem hx_R7 (hM : M ≤ 32) (hD : D ≤ 16) : hp_R7 B D M tk (hp_XG D B M ic ini st xs xp o1 o2 o3 o4 mp mn tk sn sb it) := by
  intro R k t L s pl nm e d FL FS FP pn dc hW h16 hnf hG pnx dcx np nd ap ad mo c ct cn sc ss sp hch hf n x post hn hx hp
  obtain ⟨q, hq8, hq, hc, hct, hr⟩ := hch
  subst hc
  obtain ⟨n, rfl⟩ : ∃ n', n = n' + 1 := ⟨n - 1, by omega⟩
  have hT : ct (nI q).toNatClampNeg = t := by rw [nI_clamp (by omega)]; exact hct
  have hi : vp_in (nI q) 72 := vp_in_nI hq (by decide)
  have hd : d < 16 := by have := hW.2.1.2.2.2; omega
  obtain ⟨f1, f2, f3⟩ := hf d (Nat.lt_succ_self d)
  have f4 : dcx d + 1 = nI ((dc d).toNatClampNeg + 1) := by rw [ad d (Nat.lt_succ_self d), ← nI_1, ← (hp_nb_c hW.2.2.2.2 (Nat.le_refl 32) d).2]
  have hle : FP d ≤ pl := mo.1 d (Nat.lt_succ_self d)
  refine br_f (nI_ge (b := 1000000) (by omega) (by decide)) (br_t rfl (br_f (hp_nm1 (by omega)) ⟨hi, ?_⟩))
  rw [hT]
  exact hx_prim_f h16 (br_t rfl ⟨hi, hx_nm_f1 hM hW.2.1.2.1 hnf hd rfl f1 f2 f4 (nm_r (nI_1 x) (hG pnx dcx np nd (fun i hi => ap i (by omega)) (fun i hi => ad i (by omega)) (hq_mo_bk mo) (sc d) ct cn sc ss sp f3 (fun i hi => hf i (by omega)) n (x + 1) post (by omega) (by omega) hp))⟩)
theorem hx_R8 (hM : M ≤ 32) (hB : B ≤ 1024) : hp_R8 B D M tk (hp_XG D B M ic ini st xs xp o1 o2 o3 o4 mp mn tk sn sb it) := by
  intro k t L s pl nm e d m FL FS FP pn dc hW h16 hm hfs hb pnx dcx np nd ap ad mo c ct cn sc ss sp hch hf n x post hn hx hp
  obtain ⟨q, hq8, hq, hc, hct, hr⟩ := hch
  subst hc
  obtain ⟨n, rfl⟩ : ∃ n', n = n' + 2 := ⟨n - 2, by omega⟩
  have hT : ct (nI q).toNatClampNeg = t := by rw [nI_clamp (by omega)]; exact hct
  have hi : vp_in (nI q) 72 := vp_in_nI hq (by decide)
  refine br_f (nI_ge (b := 1000000) (by omega) (by decide)) (br_t rfl (br_f (hp_nm1 (by omega)) ⟨hi, ?_⟩))
  rw [hT]
  exact hx_prim_f h16 (br_t rfl ⟨hi, hx_nm_bud hM hm hfs hb hB (nm_r (nI_1 x) (hx_end (by decide) (hp (nI q) s (nI nm) ct cn sc ss sp pnx dcx np nd ap ad)))⟩)
theorem hx_R9 (hM : M ≤ 32) (hB : B ≤ 1024) (hD : D ≤ 16) (hsn : hp_nb 5 sn) : hp_R9 B D M tk (fun m => hp_sl (fun i => sb (m * 4 + i)) 0 (sn m).toNatClampNeg) (fun s m => hp_ap s (mp m) (mn m)) (hp_XG D B M ic ini st xs xp o1 o2 o3 o4 mp mn tk sn sb it) := by
  intro R k t L s pl nm e d m FL FS FP pn dc hW h16 hm hfs he hdD hok hG pnx dcx np nd ap ad mo c ct cn sc ss sp hch hf n x post hn hx hp
  have hch0 := hch
  obtain ⟨q, hq8, hq, hc, hct, hr⟩ := hch
  subst hc
  obtain ⟨n, rfl⟩ : ∃ n', n = n' + 1 := ⟨n - 1, by omega⟩
  have hT : ct (nI q).toNatClampNeg = t := by rw [nI_clamp (by omega)]; exact hct
  have hi : vp_in (nI q) 72 := vp_in_nI hq (by decide)
  obtain ⟨hs1, hs2⟩ := hp_nb_c hsn (by decide) m
  refine br_f (nI_ge (b := 1000000) (by omega) (by decide)) (br_t rfl (br_f (hp_nm1 (by omega)) ⟨hi, ?_⟩))
  rw [hT]
  refine hx_prim_f h16 (br_t rfl ⟨hi, hx_nm_app hM hm hfs he hB hD hdD hok hq hs2 (by omega) hr (fun c' ct' cn' h1 h2 => nm_r (nI_1 x) (hG pnx _ np (hp_nb_u nd d ⟨m, by omega, rfl⟩) ap (hq_ag_u ad) (hq_mo_app mo) c' ct' cn' (upd sc d (nI q)) (vp_updL ss d s) (upd sp d (nI pl)) h1 ?_ n (x + 1) post (by omega) (by omega) hp))⟩)
  intro i hid
  by_cases hi2 : i = d
  · subst hi2
    rw [hp_us, hp_us, hp_us]
    refine ⟨pk_uLs, pk_us, ?_⟩
    rw [pk_us]
    exact hp_ch_w (fun j hj => ⟨hj, h2 j hj⟩) _ _ hch0
  · rw [hp_un hi2, hp_un hi2, hp_un hi2]
    obtain ⟨f1, f2, f3⟩ := hf i (by omega)
    refine ⟨(pk_uLn hi2).trans f1, (pk_un hi2).trans f2, ?_⟩
    rw [pk_un hi2]
    refine hp_ch_w (fun j hj => ⟨hj, h2 j ?_⟩) _ _ f3
    have hj' : j < 8 + 4 * i := hj
    omega
theorem hx_R10 (hM : M ≤ 32) (hB : B ≤ 1024) (hD : D ≤ 16) : hp_R10 B D M tk (fun s m => hp_ap s (mp m) (mn m)) (hp_XG D B M ic ini st xs xp o1 o2 o3 o4 mp mn tk sn sb it) := by
  intro R k t L s pl nm e d m FL FS FP pn dc hW h16 hm hfs he hok hG pnx dcx np nd ap ad mo c ct cn sc ss sp hch hf n x post hn hx hp
  have hch0 := hch
  obtain ⟨q, hq8, hq, hc, hct, hr⟩ := hch
  subst hc
  obtain ⟨n, rfl⟩ : ∃ n', n = n' + 1 := ⟨n - 1, by omega⟩
  have hT : ct (nI q).toNatClampNeg = t := by rw [nI_clamp (by omega)]; exact hct
  have hi : vp_in (nI q) 72 := vp_in_nI hq (by decide)
  have hd : d ≤ 16 := by have := hW.2.1.2.2.2; omega
  refine br_f (nI_ge (b := 1000000) (by omega) (by decide)) (br_t rfl (br_f (hp_nm1 (by omega)) ⟨hi, ?_⟩))
  rw [hT]
  exact hx_prim_f h16 (br_t rfl ⟨hi, hx_nm_skip hM hm hfs he hB hD hd hok (nm_r (nI_1 x) (hG pnx dcx np nd ap ad mo (nI q) ct cn sc ss sp hch0 hf n (x + 1) post (by omega) (by omega) hp))⟩)
theorem hx_rules (hM : M ≤ 32) (hD : D ≤ 16) (hB : B ≤ 1024) (hsn : hp_nb 5 sn) : hp_Rules B D M tk (fun m => hp_sl (fun i => sb (m * 4 + i)) 0 (sn m).toNatClampNeg) (fun s j => hp_ap s (o1 j) (o2 j)) (fun s j => (s &&& (o4 j ^^^ (-1))) ||| o3 j) (fun s m => hp_ap s (mp m) (mn m)) (hp_XG D B M ic ini st xs xp o1 o2 o3 o4 mp mn tk sn sb it) :=
  ⟨hx_R1, hx_R2 hB, hx_R3 hB, hx_R4 hB, hx_R5 hB hD, hx_R6 hM, hx_R7 hM hD, hx_R8 hM hB, hx_R9 hM hB hD hsn, hx_R10 hM hB hD⟩
end
end
section
section
variable (M : Nat) (tk : Nat → Int32) (sb : Nat → List Int32) (ok : Int64 → Nat → Prop) (ef : Int64 → Nat → Int64) (mk : Int64 → Nat → Prop)
def hq_rep (n dl : Nat) (pn dc : Nat → Int32) : Nat → List Int32 → Int64 → Nat → Nat → Prop
  | 0, L, _, pi, di => L = [] ∧ pi = n ∧ di = dl
  | f + 1, L, s, pi, di => ∃ t L', L = t :: L' ∧ ((t < 16 ∧ pi < n ∧ pn pi = t ∧ ok s t.toNatClampNeg ∧ hq_rep n dl pn dc f L' (ef s t.toNatClampNeg) (pi + 1) di) ∨ (¬ t < 16 ∧ di < dl ∧ ∃ m : Nat, m < M ∧ dc di = nI m ∧ tk m = t ∧ mk s m ∧ hq_rep n dl pn dc f (sb m ++ L') s pi (di + 1)))
def hq_pa (L0 : List Int32) (ini : Int64) (L : List Int32) (s : Int64) (pl d : Nat) (pn dc : Nat → Int32) : Prop := ∀ (n dl : Nat) (pn' dc' : Nat → Int32), pl ≤ n → d ≤ dl → (∀ i, i < pl → pn' i = pn i) → (∀ i, i < d → dc' i = dc i) → ∀ f, hq_rep M tk sb ok ef mk n dl pn' dc' f L s pl d → hq_rep M tk sb ok ef mk n dl pn' dc' (f + pl + d) L0 ini 0 0
def hq_PG (D : Nat) (L0 : List Int32) (ini : Int64) : hp_G := fun R _ L s pl _ _ d FL FS FP pn dc =>
  hq_pa M tk sb ok ef mk L0 ini L s pl d pn dc → hq_mo FP d pl → (∀ i, i < d → hq_pa M tk sb ok ef mk L0 ini (FL i) (FS i) (FP i) i pn dc) → (R.1 = 1 ∨ R.1 = 2 ∨ R.1 = 3) ∧ R.2.2.1 ≤ D ∧ (R.1 = 1 → hq_rep M tk sb ok ef mk R.2.1 R.2.2.1 R.2.2.2.2.1 R.2.2.2.2.2 (R.2.1 + R.2.2.1) L0 ini 0 0)
end
theorem hp_2n1 : ¬ (2 : Int32) = 1 := by decide
theorem hp_3n1 : ¬ (3 : Int32) = 1 := by decide
section
variable {B D M : Nat} {tk : Nat → Int32} {sb : Nat → List Int32} {ok : Int64 → Nat → Prop} {ef : Int64 → Nat → Int64} {mk : Int64 → Nat → Prop} {L0 : List Int32} {ini : Int64}
theorem hq_pa0 {pn dc : Nat → Int32} : hq_pa M tk sb ok ef mk L0 ini L0 ini 0 0 pn dc := fun _ _ _ _ _ _ _ _ _ h => h
theorem hq_pa_c {L : List Int32} {s : Int64} {pl d : Nat} {pn dc pn2 dc2 : Nat → Int32} (h : hq_pa M tk sb ok ef mk L0 ini L s pl d pn dc) (h1 : ∀ i, i < pl → pn2 i = pn i) (h2 : ∀ i, i < d → dc2 i = dc i) : hq_pa M tk sb ok ef mk L0 ini L s pl d pn2 dc2 := fun n dl pn' dc' a b c e => h n dl pn' dc' a b (fun i hi => (c i hi).trans (h1 i hi)) (fun i hi => (e i hi).trans (h2 i hi))
theorem hq_pa_op {t : Int32} {L : List Int32} {s : Int64} {pl d : Nat} {pn dc : Nat → Int32} (h : hq_pa M tk sb ok ef mk L0 ini (t :: L) s pl d pn dc) (h16 : t < 16) (hok : ok s t.toNatClampNeg) : hq_pa M tk sb ok ef mk L0 ini L (ef s t.toNatClampNeg) (pl + 1) d (upd pn pl t) dc := by
  intro n dl pn' dc' h1 h2 h3 h4 f hr
  have h5 := h n dl pn' dc' (by omega) h2 (fun i hi => (h3 i (by omega)).trans (pk_un (by omega))) h4 (f + 1) ⟨t, L, rfl, Or.inl ⟨h16, by omega, (h3 pl (by omega)).trans pk_us, hok, hr⟩⟩
  rw [show f + (pl + 1) + d = f + 1 + pl + d by omega]
  exact h5
theorem hq_pa_app {t : Int32} {L : List Int32} {s : Int64} {pl d m : Nat} {pn dc : Nat → Int32} (h : hq_pa M tk sb ok ef mk L0 ini (t :: L) s pl d pn dc) (h16 : ¬ t < 16) (hm : m < M) (ht : tk m = t) (hmk : mk s m) : hq_pa M tk sb ok ef mk L0 ini (sb m ++ L) s pl (d + 1) pn (upd dc d (nI m)) := by
  intro n dl pn' dc' h1 h2 h3 h4 f hr
  have h5 := h n dl pn' dc' h1 (by omega) h3 (fun i hi => (h4 i (by omega)).trans (pk_un (by omega))) (f + 1) ⟨t, L, rfl, Or.inr ⟨h16, by omega, m, hm, (h4 d (by omega)).trans pk_us, ht, hmk, hr⟩⟩
  rw [show f + pl + (d + 1) = f + 1 + pl + d by omega]
  exact h5
theorem hq_rules : hp_Rules B D M tk sb ok ef mk (hq_PG M tk sb ok ef mk D L0 ini) := by
  refine ⟨?_, ?_, ?_, ?_, ?_, ?_, ?_, ?_, ?_, ?_⟩
  · intro k s pl nm e d FL FS FP pn dc hW hp mo hf
    refine ⟨Or.inl rfl, hW.2.1.2.2.2, fun _ => ?_⟩
    have h := hp pl d pn dc (Nat.le_refl _) (Nat.le_refl _) (fun _ _ => rfl) (fun _ _ => rfl) 0 ⟨rfl, rfl, rfl⟩
    rw [Nat.zero_add] at h
    exact h
  · intro k t L s pl nm e d FL FS FP pn dc hW h16 hb hp mo hf
    exact ⟨Or.inr (Or.inr rfl), hW.2.1.2.2.2, fun z => absurd z hp_3n1⟩
  · intro R k t L s pl nm e d FL FS FP pn dc hW h16 he hpl hok hG hp mo hf
    exact hG (hq_pa_op hp h16 hok) (hq_mo_op mo) (fun i hi => hq_pa_c (hf i hi) (fun j hj => pk_un (by have := mo.1 i hi; omega)) (fun _ _ => rfl))
  · intro k t L s pl nm e FL FS FP pn dc hW h16 he hok hp mo hf
    exact ⟨Or.inr (Or.inl rfl), Nat.zero_le D, fun z => absurd z hp_2n1⟩
  · intro R k t L s pl nm e d FL FS FP pn dc hW h16 he hok hG hp mo hf
    exact hG (hf d (Nat.lt_succ_self d)) (hq_mo_bk mo) (fun i hi => hf i (by omega))
  · intro k t L s pl nm e FL FS FP pn dc hW h16 hnf hp mo hf
    exact ⟨Or.inr (Or.inl rfl), Nat.zero_le D, fun z => absurd z hp_2n1⟩
  · intro R k t L s pl nm e d FL FS FP pn dc hW h16 hnf hG hp mo hf
    exact hG (hf d (Nat.lt_succ_self d)) (hq_mo_bk mo) (fun i hi => hf i (by omega))
  · intro k t L s pl nm e d m FL FS FP pn dc hW h16 hm hfs hb hp mo hf
    exact ⟨Or.inr (Or.inr rfl), hW.2.1.2.2.2, fun z => absurd z hp_3n1⟩
  · intro R k t L s pl nm e d m FL FS FP pn dc hW h16 hm hfs he hdD hok hG hp mo hf
    refine hG (hq_pa_app hp h16 hm hfs.2.1 hok) (hq_mo_app mo) (fun i hi => ?_)
    by_cases hid : i = d
    · subst hid
      rw [hp_us, hp_us, hp_us]
      exact hq_pa_c hp (fun _ _ => rfl) (fun j hj => pk_un (by omega))
    · rw [hp_un hid, hp_un hid, hp_un hid]
      exact hq_pa_c (hf i (by omega)) (fun _ _ => rfl) (fun j hj => pk_un (by omega))
  · intro R k t L s pl nm e d m FL FS FP pn dc hW h16 hm hfs he hok hG hp mo hf
    exact hG hp mo hf
end
end
section
section
variable {ini : Int64} {st : Int32} {xs : Int64} {c : Int32} {s : Int64} {o1 o2 o3 o4 mp mn : Nat → Int64} {tk sn sb it pn dc ct cn sc : Nat → Int32} {ss : Nat → Int64} {sp : Nat → Int32}
theorem hx_disc {gD gB gM gI ge gp gd gn gx : Int32} {post : St2 → Prop} (hp : post (gD, gB, gM, gI, ini, 0, 0, 0, 0, ini, 0, c, s, gn, o1, o2, o3, o4, mp, mn, tk, sn, sb, it, pn, dc, ct, cn, sc, ss, sp)) : wpX_discard post (gD, gB, gM, gI, ini, st, ge, gp, gd, xs, gx, c, s, gn, o1, o2, o3, o4, mp, mn, tk, sn, sb, it, pn, dc, ct, cn, sc, ss, sp) := hp
end
theorem hp_nb0 (N : Nat) (h : 0 < N) : hp_nb N (fun _ => 0) := fun _ => ⟨0, h, rfl⟩
def hq_PL (D B M ic : Nat) (ini : Int64) (o1 o2 o3 o4 mp mn : Nat → Int64) (tk sn sb it : Nat → Int32) (R : hp_R) : Prop :=
  ∀ (st ge gp gd gx gn : Int32) (xs : Int64) (c : Int32) (s : Int64) (pn dc ct cn sc : Nat → Int32) (ss : Nat → Int64) (sp : Nat → Int32) (post : Int32 → St2 → Prop), hp_nb 16 pn → hp_nb 32 dc →
  (R.1 = 1 → ∀ (c : Int32) (s : Int64) (gn : Int32) (ct cn sc : Nat → Int32) (ss : Nat → Int64) (sp pn dc : Nat → Int32), hp_nb 16 pn → hp_nb 32 dc → (∀ i, i < R.2.1 → pn i = R.2.2.2.2.1 i) → (∀ i, i < R.2.2.1 → dc i = R.2.2.2.2.2 i) → post R.1 (nI D, nI B, nI M, nI ic, ini, R.1, nI R.2.2.2.1, nI R.2.1, nI R.2.2.1, ini, 0, c, s, gn, o1, o2, o3, o4, mp, mn, tk, sn, sb, it, pn, dc, ct, cn, sc, ss, sp)) →
  (¬ R.1 = 1 → ∀ (c : Int32) (s : Int64) (gn : Int32) (ct cn sc : Nat → Int32) (ss : Nat → Int64) (sp pn dc : Nat → Int32), post R.1 (nI D, nI B, nI M, nI ic, ini, R.1, nI R.2.2.2.1, 0, 0, ini, 0, c, s, gn, o1, o2, o3, o4, mp, mn, tk, sn, sb, it, pn, dc, ct, cn, sc, ss, sp)) →
  wpX_plan post (nI D, nI B, nI M, nI ic, ini, st, ge, gp, gd, xs, gx, c, s, gn, o1, o2, o3, o4, mp, mn, tk, sn, sb, it, pn, dc, ct, cn, sc, ss, sp)
theorem hq_plan {D B M ic : Nat} (ini : Int64) (o1 o2 o3 o4 mp mn : Nat → Int64) (tk : Nat → Int32) {sn sb it : Nat → Int32} (hM : M ≤ 32) (hD : D ≤ 16) (hB : B ≤ 1024) (hic : ic ≤ 8) (hsn : hp_nb 5 sn) (hsb : hp_nb 32 sb) (hit : hp_nb 32 it) : ∃ R : hp_R, hp_RG B R ∧ (R.1 = 1 ∨ R.1 = 2 ∨ R.1 = 3) ∧ R.2.2.1 ≤ D ∧ (R.1 = 1 → hq_rep M tk (fun m => hp_sl (fun i => sb (m * 4 + i)) 0 (sn m).toNatClampNeg) (fun s j => hp_ap s (o1 j) (o2 j)) (fun s j => (s &&& (o4 j ^^^ (-1))) ||| o3 j) (fun s m => hp_ap s (mp m) (mn m)) R.2.1 R.2.2.1 R.2.2.2.2.1 R.2.2.2.2.2 (R.2.1 + R.2.2.1) (hp_sl it 0 ic) ini 0 0) ∧ hq_PL D B M ic ini o1 o2 o3 o4 mp mn tk sn sb it R := by
  have hW : hp_WF B D (hp_sl it 0 ic) 0 0 0 0 (fun _ => []) (fun _ => 0) (fun _ => 0) (fun _ => 0) := ⟨⟨hp_sl_mem (fun i => hit i) ic 0, by rw [hp_sl_len]; omega, fun z => absurd rfl z⟩, ⟨by decide, by decide, by omega, by omega⟩, fun i hi => absurd hi (Nat.not_lt_zero i), hp_nb0 16 (by decide), hp_nb0 32 (by decide)⟩
  have hsub : ∀ m, m < M → (∀ t, t ∈ hp_sl (fun i => sb (m * 4 + i)) 0 (sn m).toNatClampNeg → hp_vt t) ∧ (hp_sl (fun i => sb (m * 4 + i)) 0 (sn m).toNatClampNeg).length ≤ 4 := by
    intro m _
    refine ⟨hp_sl_mem (fun i => hsb (m * 4 + i)) _ 0, ?_⟩
    rw [hp_sl_len]
    have := (hp_nb_c hsn (by decide) m).1
    omega
  obtain ⟨R, hR, gx, gy⟩ := hp_main hM hD hsub (hx_rules (ic := ic) (ini := ini) (st := 0) (xs := ini) (xp := 0) (o1 := o1) (o2 := o2) (o3 := o3) (o4 := o4) (mp := mp) (mn := mn) (tk := tk) (sb := sb) (it := it) hM hD hB hsn) (hq_rules (L0 := hp_sl it 0 ic) (ini := ini)) (2 * B + 1) (hp_sl it 0 ic) ini 0 0 0 0 (fun _ => []) (fun _ => 0) (fun _ => 0) (fun _ => 0) (fun _ => 0) hW (by omega)
  have mo0 : hq_mo (fun _ => 0) 0 0 := ⟨fun j hj => absurd hj (Nat.not_lt_zero j), fun i j _ hj => absurd hj (Nat.not_lt_zero j)⟩
  obtain ⟨k1, k2, k3⟩ := gy hq_pa0 mo0 (fun i hi => absurd hi (Nat.not_lt_zero i))
  refine ⟨R, hR, k1, k2, k3, ?_⟩
  intro st ge gp gd gxx gn xs c s pn dc ct cn sc ss sp post hpn hdc h1 h2
  unfold wpX_plan
  refine hx_disc ?_
  refine hx_start (e := 0) (pl := 0) (d := 0) hic (fun c' ct' cn' hch => ?_)
  refine ⟨2 * B + 2, gx pn dc hpn hdc (fun i hi => absurd hi (Nat.not_lt_zero i)) (fun i hi => absurd hi (Nat.not_lt_zero i)) mo0 c' ct' cn' sc ss sp hch (fun i hi => absurd hi (Nat.not_lt_zero i)) (2 * B + 2) 0 _ (by omega) (by omega) ?_⟩
  intro c s nm ct cn sc ss sp pnx dcx a1 a2 a3 a4
  by_cases hr : R.1 = 1
  · exact br_t hr (h1 hr c s nm ct cn sc ss sp pnx dcx a1 a2 a3 a4)
  · exact br_f hr (h2 hr c s nm ct cn sc ss sp pnx dcx)
end
section
theorem hv_b1 : narrow .boolean (.int 1) = .int 1 := rfl
theorem hp_1n0 : ¬ (1 : Int32) = 0 := by decide
section
variable {D B M ic : Nat} {ini : Int64} {st ge gp gd gx gn : Int32} {xs : Int64} {c : Int32} {s : Int64} {o1 o2 o3 o4 mp mn : Nat → Int64} {tk sn sb it pn dc ct cn sc : Nat → Int32} {ss : Nat → Int64} {sp : Nat → Int32}
theorem hq_set0 {post : Int32 → St2 → Prop} {j : Nat} {b : Int64} (hj : j < 16) (hp : post 1 (nI D, nI B, nI M, nI ic, ini, 0, 0, 0, 0, ini, 0, c, s, gn, vp_updL o1 j b, o2, o3, o4, mp, mn, tk, sn, sb, it, pn, dc, ct, cn, sc, ss, sp)) : wpX_setSet post (nI D, nI B, nI M, nI ic, ini, st, ge, gp, gd, xs, gx, c, s, gn, o1, o2, o3, o4, mp, mn, tk, sn, sb, it, pn, dc, ct, cn, sc, ss, sp) 0 (nI j) b := by
  have e1 : vp_updL o1 (nI j).toNatClampNeg b = vp_updL o1 j b := by rw [nI_clamp (by omega)]
  unfold wpX_setSet
  exact br_f (by decide) (br_t (by decide) (br_f (by decide) (br_f (nI_pos (by omega)) (br_f (nI_ge (b := 16) hj (by decide)) (br_f hp_1n0 (br_f (by decide) (br_f (by decide) (br_t (by decide) ⟨vp_in_nI hj (by decide), nm_r e1 (hx_disc hp)⟩))))))))
theorem hq_gs0 {post : Int64 → Prop} {j : Nat} (hj : j < 16) (hp : post (o1 j)) : wpX_getSet post (nI D, nI B, nI M, nI ic, ini, st, ge, gp, gd, xs, gx, c, s, gn, o1, o2, o3, o4, mp, mn, tk, sn, sb, it, pn, dc, ct, cn, sc, ss, sp) 0 (nI j) := by
  have e1 : o1 (nI j).toNatClampNeg = o1 j := by rw [nI_clamp (by omega)]
  unfold wpX_getSet
  exact br_f (by decide) (br_t (by decide) (br_f (by decide) (br_f (nI_pos (by omega)) (br_f (nI_ge (b := 16) hj (by decide)) (br_f hp_1n0 (br_f (by decide) (br_f (by decide) (br_t (by decide) ⟨vp_in_nI hj (by decide), e1.symm ▸ hp⟩))))))))
theorem hq_set1 {post : Int32 → St2 → Prop} {j : Nat} {b : Int64} (hj : j < 16) (hp : post 1 (nI D, nI B, nI M, nI ic, ini, 0, 0, 0, 0, ini, 0, c, s, gn, o1, vp_updL o2 j b, o3, o4, mp, mn, tk, sn, sb, it, pn, dc, ct, cn, sc, ss, sp)) : wpX_setSet post (nI D, nI B, nI M, nI ic, ini, st, ge, gp, gd, xs, gx, c, s, gn, o1, o2, o3, o4, mp, mn, tk, sn, sb, it, pn, dc, ct, cn, sc, ss, sp) 1 (nI j) b := by
  have e1 : vp_updL o2 (nI j).toNatClampNeg b = vp_updL o2 j b := by rw [nI_clamp (by omega)]
  unfold wpX_setSet
  exact br_f (by decide) (br_t (by decide) (br_f (by decide) (br_f (nI_pos (by omega)) (br_f (nI_ge (b := 16) hj (by decide)) (br_f hp_1n0 (br_f (by decide) (br_f (by decide) (br_f (by decide) (br_t (by decide) ⟨vp_in_nI hj (by decide), nm_r e1 (hx_disc hp)⟩)))))))))
theorem hq_gs1 {post : Int64 → Prop} {j : Nat} (hj : j < 16) (hp : post (o2 j)) : wpX_getSet post (nI D, nI B, nI M, nI ic, ini, st, ge, gp, gd, xs, gx, c, s, gn, o1, o2, o3, o4, mp, mn, tk, sn, sb, it, pn, dc, ct, cn, sc, ss, sp) 1 (nI j) := by
  have e1 : o2 (nI j).toNatClampNeg = o2 j := by rw [nI_clamp (by omega)]
  unfold wpX_getSet
  exact br_f (by decide) (br_t (by decide) (br_f (by decide) (br_f (nI_pos (by omega)) (br_f (nI_ge (b := 16) hj (by decide)) (br_f hp_1n0 (br_f (by decide) (br_f (by decide) (br_f (by decide) (br_t (by decide) ⟨vp_in_nI hj (by decide), e1.symm ▸ hp⟩)))))))))
theorem hq_set2 {post : Int32 → St2 → Prop} {j : Nat} {b : Int64} (hj : j < 16) (hp : post 1 (nI D, nI B, nI M, nI ic, ini, 0, 0, 0, 0, ini, 0, c, s, gn, o1, o2, vp_updL o3 j b, o4, mp, mn, tk, sn, sb, it, pn, dc, ct, cn, sc, ss, sp)) : wpX_setSet post (nI D, nI B, nI M, nI ic, ini, st, ge, gp, gd, xs, gx, c, s, gn, o1, o2, o3, o4, mp, mn, tk, sn, sb, it, pn, dc, ct, cn, sc, ss, sp) 2 (nI j) b := by
  have e1 : vp_updL o3 (nI j).toNatClampNeg b = vp_updL o3 j b := by rw [nI_clamp (by omega)]
  unfold wpX_setSet
  exact br_f (by decide) (br_t (by decide) (br_f (by decide) (br_f (nI_pos (by omega)) (br_f (nI_ge (b := 16) hj (by decide)) (br_f hp_1n0 (br_f (by decide) (br_f (by decide) (br_f (by decide) (br_f (by decide) (br_t (by decide) ⟨vp_in_nI hj (by decide), nm_r e1 (hx_disc hp)⟩))))))))))
theorem hq_gs2 {post : Int64 → Prop} {j : Nat} (hj : j < 16) (hp : post (o3 j)) : wpX_getSet post (nI D, nI B, nI M, nI ic, ini, st, ge, gp, gd, xs, gx, c, s, gn, o1, o2, o3, o4, mp, mn, tk, sn, sb, it, pn, dc, ct, cn, sc, ss, sp) 2 (nI j) := by
  have e1 : o3 (nI j).toNatClampNeg = o3 j := by rw [nI_clamp (by omega)]
  unfold wpX_getSet
  exact br_f (by decide) (br_t (by decide) (br_f (by decide) (br_f (nI_pos (by omega)) (br_f (nI_ge (b := 16) hj (by decide)) (br_f hp_1n0 (br_f (by decide) (br_f (by decide) (br_f (by decide) (br_f (by decide) (br_t (by decide) ⟨vp_in_nI hj (by decide), e1.symm ▸ hp⟩))))))))))
theorem hq_set3 {post : Int32 → St2 → Prop} {j : Nat} {b : Int64} (hj : j < 16) (hp : post 1 (nI D, nI B, nI M, nI ic, ini, 0, 0, 0, 0, ini, 0, c, s, gn, o1, o2, o3, vp_updL o4 j b, mp, mn, tk, sn, sb, it, pn, dc, ct, cn, sc, ss, sp)) : wpX_setSet post (nI D, nI B, nI M, nI ic, ini, st, ge, gp, gd, xs, gx, c, s, gn, o1, o2, o3, o4, mp, mn, tk, sn, sb, it, pn, dc, ct, cn, sc, ss, sp) 3 (nI j) b := by
  have e1 : vp_updL o4 (nI j).toNatClampNeg b = vp_updL o4 j b := by rw [nI_clamp (by omega)]
  unfold wpX_setSet
  exact br_f (by decide) (br_t (by decide) (br_f (by decide) (br_f (nI_pos (by omega)) (br_f (nI_ge (b := 16) hj (by decide)) (br_f hp_1n0 (br_f (by decide) (br_f (by decide) (br_f (by decide) (br_f (by decide) (br_f (by decide) (br_t (by decide) ⟨vp_in_nI hj (by decide), nm_r e1 (hx_disc hp)⟩)))))))))))
theorem hq_gs3 {post : Int64 → Prop} {j : Nat} (hj : j < 16) (hp : post (o4 j)) : wpX_getSet post (nI D, nI B, nI M, nI ic, ini, st, ge, gp, gd, xs, gx, c, s, gn, o1, o2, o3, o4, mp, mn, tk, sn, sb, it, pn, dc, ct, cn, sc, ss, sp) 3 (nI j) := by
  have e1 : o4 (nI j).toNatClampNeg = o4 j := by rw [nI_clamp (by omega)]
  unfold wpX_getSet
  exact br_f (by decide) (br_t (by decide) (br_f (by decide) (br_f (nI_pos (by omega)) (br_f (nI_ge (b := 16) hj (by decide)) (br_f hp_1n0 (br_f (by decide) (br_f (by decide) (br_f (by decide) (br_f (by decide) (br_f (by decide) (br_t (by decide) ⟨vp_in_nI hj (by decide), e1.symm ▸ hp⟩)))))))))))
theorem hq_set4 {post : Int32 → St2 → Prop} {j : Nat} {b : Int64} (hM : M ≤ 32) (hj : j < M) (hp : post 1 (nI D, nI B, nI M, nI ic, ini, 0, 0, 0, 0, ini, 0, c, s, gn, o1, o2, o3, o4, vp_updL mp j b, mn, tk, sn, sb, it, pn, dc, ct, cn, sc, ss, sp)) : wpX_setSet post (nI D, nI B, nI M, nI ic, ini, st, ge, gp, gd, xs, gx, c, s, gn, o1, o2, o3, o4, mp, mn, tk, sn, sb, it, pn, dc, ct, cn, sc, ss, sp) 4 (nI j) b := by
  have e1 : vp_updL mp (nI j).toNatClampNeg b = vp_updL mp j b := by rw [nI_clamp (by omega)]
  unfold wpX_setSet
  exact br_f (by decide) (br_t (by decide) (br_t (by decide) (br_f (by decide) (br_f (nI_pos (by omega)) (br_f (nI_ge hj (by omega)) ⟨hv_b1, br_f hp_1n0 (br_f (by decide) (br_f (by decide) (br_f (by decide) (br_f (by decide) (br_f (by decide) (br_f (by decide) (br_t (by decide) ⟨vp_in_nI (by omega) (by decide), nm_r e1 (hx_disc hp)⟩)))))))⟩)))))
theorem hq_gs4 {post : Int64 → Prop} {j : Nat} (hM : M ≤ 32) (hj : j < M) (hp : post (mp j)) : wpX_getSet post (nI D, nI B, nI M, nI ic, ini, st, ge, gp, gd, xs, gx, c, s, gn, o1, o2, o3, o4, mp, mn, tk, sn, sb, it, pn, dc, ct, cn, sc, ss, sp) 4 (nI j) := by
  have e1 : mp (nI j).toNatClampNeg = mp j := by rw [nI_clamp (by omega)]
  unfold wpX_getSet
  exact br_f (by decide) (br_t (by decide) (br_t (by decide) (br_f (by decide) (br_f (nI_pos (by omega)) (br_f (nI_ge hj (by omega)) ⟨hv_b1, br_f hp_1n0 (br_f (by decide) (br_f (by decide) (br_f (by decide) (br_f (by decide) (br_f (by decide) (br_f (by decide) (br_t (by decide) ⟨vp_in_nI (by omega) (by decide), e1.symm ▸ hp⟩)))))))⟩)))))
theorem hq_set5 {post : Int32 → St2 → Prop} {j : Nat} {b : Int64} (hM : M ≤ 32) (hj : j < M) (hp : post 1 (nI D, nI B, nI M, nI ic, ini, 0, 0, 0, 0, ini, 0, c, s, gn, o1, o2, o3, o4, mp, vp_updL mn j b, tk, sn, sb, it, pn, dc, ct, cn, sc, ss, sp)) : wpX_setSet post (nI D, nI B, nI M, nI ic, ini, st, ge, gp, gd, xs, gx, c, s, gn, o1, o2, o3, o4, mp, mn, tk, sn, sb, it, pn, dc, ct, cn, sc, ss, sp) 5 (nI j) b := by
  have e1 : vp_updL mn (nI j).toNatClampNeg b = vp_updL mn j b := by rw [nI_clamp (by omega)]
  unfold wpX_setSet
  exact br_f (by decide) (br_t (by decide) (br_t (by decide) (br_f (by decide) (br_f (nI_pos (by omega)) (br_f (nI_ge hj (by omega)) ⟨hv_b1, br_f hp_1n0 (br_f (by decide) (br_f (by decide) (br_f (by decide) (br_f (by decide) (br_f (by decide) (br_f (by decide) (br_f (by decide) (br_t (by decide) ⟨vp_in_nI (by omega) (by decide), nm_r e1 (hx_disc hp)⟩))))))))⟩)))))
theorem hq_gs5 {post : Int64 → Prop} {j : Nat} (hM : M ≤ 32) (hj : j < M) (hp : post (mn j)) : wpX_getSet post (nI D, nI B, nI M, nI ic, ini, st, ge, gp, gd, xs, gx, c, s, gn, o1, o2, o3, o4, mp, mn, tk, sn, sb, it, pn, dc, ct, cn, sc, ss, sp) 5 (nI j) := by
  have e1 : mn (nI j).toNatClampNeg = mn j := by rw [nI_clamp (by omega)]
  unfold wpX_getSet
  exact br_f (by decide) (br_t (by decide) (br_t (by decide) (br_f (by decide) (br_f (nI_pos (by omega)) (br_f (nI_ge hj (by omega)) ⟨hv_b1, br_f hp_1n0 (br_f (by decide) (br_f (by decide) (br_f (by decide) (br_f (by decide) (br_f (by decide) (br_f (by decide) (br_f (by decide) (br_t (by decide) ⟨vp_in_nI (by omega) (by decide), e1.symm ▸ hp⟩))))))))⟩)))))
theorem hq_set6 {post : Int32 → St2 → Prop} {b : Int64} (hp : post 1 (nI D, nI B, nI M, nI ic, b, 0, 0, 0, 0, b, 0, c, s, gn, o1, o2, o3, o4, mp, mn, tk, sn, sb, it, pn, dc, ct, cn, sc, ss, sp)) : wpX_setSet post (nI D, nI B, nI M, nI ic, ini, st, ge, gp, gd, xs, gx, c, s, gn, o1, o2, o3, o4, mp, mn, tk, sn, sb, it, pn, dc, ct, cn, sc, ss, sp) 6 0 b := by
  unfold wpX_setSet
  exact br_f (by decide) (br_t (by decide) (br_t (by decide) (br_t (by decide) (br_t rfl (br_f hp_1n0 (br_f (by decide) (br_t (by decide) (hx_disc hp))))))))
theorem hq_it {post : Int32 → Prop} {j : Nat} (h : j < 32) (hp : post 1) : wpX_isTask post () (nI j) := br_f (nI_pos (by omega)) (br_f (nI_ge (b := 32) h (by decide)) hp)
theorem hq_am {post : Int32 → St2 → Prop} {t : Nat} (h16 : 16 ≤ t) (h32 : t < 32) (hM : M < 32) (hp : post (nI M) (nI D, nI B, nI (M + 1), nI ic, ini, 0, 0, 0, 0, ini, 0, c, s, gn, o1, o2, o3, o4, mp, mn, upd tk M (nI t), sn, sb, it, pn, dc, ct, cn, sc, ss, sp)) : wpX_addMethod post (nI D, nI B, nI M, nI ic, ini, st, ge, gp, gd, xs, gx, c, s, gn, o1, o2, o3, o4, mp, mn, tk, sn, sb, it, pn, dc, ct, cn, sc, ss, sp) (nI t) := by
  have e1 : upd tk (nI M).toNatClampNeg (nI t) = upd tk M (nI t) := by rw [nI_clamp (by omega)]
  unfold wpX_addMethod
  exact hq_it h32 (br_f hp_1n0 (hx_prim_f (nI_nlt (b := 16) h16 (by omega)) (br_t rfl (br_t (nI_lt (b := 32) hM (by decide)) ⟨vp_in_nI hM (by decide), nm_r e1 (nm_r (nI_1 M) (hx_disc hp))⟩))))
theorem hq_as {post : Int32 → St2 → Prop} {m t q : Nat} (hM : M ≤ 32) (hm : m < M) (h32 : t < 32) (hq : sn m = nI q) (hq4 : q < 4) (hp : post 1 (nI D, nI B, nI M, nI ic, ini, 0, 0, 0, 0, ini, 0, c, s, gn, o1, o2, o3, o4, mp, mn, tk, upd sn m (nI (q + 1)), upd sb (m * 4 + q) (nI t), it, pn, dc, ct, cn, sc, ss, sp)) : wpX_addSubtask post (nI D, nI B, nI M, nI ic, ini, st, ge, gp, gd, xs, gx, c, s, gn, o1, o2, o3, o4, mp, mn, tk, sn, sb, it, pn, dc, ct, cn, sc, ss, sp) (nI m) (nI t) := by
  have hi : vp_in (nI m) 32 := vp_in_nI (by omega) (by decide)
  have eq' : sn (nI m).toNatClampNeg = nI q := by rw [nI_clamp (by omega)]; exact hq
  have t4 : sn (nI m).toNatClampNeg < 4 := by rw [eq']; exact nI_lt (b := 4) hq4 (by decide)
  have hix : nI m * 4 + sn (nI m).toNatClampNeg = nI (m * 4 + q) := by rw [eq', hp_4, pk_mul, nI_add]
  have hv : vp_in (nI m * 4 + sn (nI m).toNatClampNeg) 128 := by rw [hix]; exact vp_in_nI (by omega) (by decide)
  have e1 : upd sb (nI m * 4 + sn (nI m).toNatClampNeg).toNatClampNeg (nI t) = upd sb (m * 4 + q) (nI t) := by rw [hix, nI_clamp (by omega)]
  have e2 : upd sn (nI m).toNatClampNeg (sn (nI m).toNatClampNeg + 1) = upd sn m (nI (q + 1)) := by rw [eq', nI_clamp (by omega), nI_1]
  unfold wpX_addSubtask
  exact br_f (nI_pos (by omega)) (br_f (nI_ge hm (by omega)) (br_f hp_1n0 (hq_it h32 (br_f hp_1n0 ⟨hi, br_t t4 ⟨hi, hv, nm_r e1 ⟨hi, hi, nm_r e2 (hx_disc hp)⟩⟩⟩))))
theorem hq_ai {post : Int32 → St2 → Prop} {t : Nat} (h32 : t < 32) (h8 : ic < 8) (hp : post 1 (nI D, nI B, nI M, nI (ic + 1), ini, 0, 0, 0, 0, ini, 0, c, s, gn, o1, o2, o3, o4, mp, mn, tk, sn, sb, upd it ic (nI t), pn, dc, ct, cn, sc, ss, sp)) : wpX_addInitialTask post (nI D, nI B, nI M, nI ic, ini, st, ge, gp, gd, xs, gx, c, s, gn, o1, o2, o3, o4, mp, mn, tk, sn, sb, it, pn, dc, ct, cn, sc, ss, sp) (nI t) := by
  have e1 : upd it (nI ic).toNatClampNeg (nI t) = upd it ic (nI t) := by rw [nI_clamp (by omega)]
  unfold wpX_addInitialTask
  exact hq_it h32 (br_f hp_1n0 (br_t (nI_lt (b := 8) h8 (by decide)) ⟨vp_in_nI h8 (by decide), nm_r e1 (nm_r (nI_1 ic) (hx_disc hp))⟩))
theorem hq_i0 {post : Int32 → Prop} (hp : post st) : wpX_getInfo post (nI D, nI B, nI M, nI ic, ini, st, ge, gp, gd, xs, gx, c, s, gn, o1, o2, o3, o4, mp, mn, tk, sn, sb, it, pn, dc, ct, cn, sc, ss, sp) 0 := br_f (by decide) (br_f (by decide) (br_t rfl hp))
theorem hq_i1 {post : Int32 → Prop} (hp : post gp) : wpX_getInfo post (nI D, nI B, nI M, nI ic, ini, st, ge, gp, gd, xs, gx, c, s, gn, o1, o2, o3, o4, mp, mn, tk, sn, sb, it, pn, dc, ct, cn, sc, ss, sp) 1 := br_f (by decide) (br_f (by decide) (br_f (by decide) (br_t rfl hp)))
theorem hq_i2 {post : Int32 → Prop} (hp : post gd) : wpX_getInfo post (nI D, nI B, nI M, nI ic, ini, st, ge, gp, gd, xs, gx, c, s, gn, o1, o2, o3, o4, mp, mn, tk, sn, sb, it, pn, dc, ct, cn, sc, ss, sp) 2 := br_f (by decide) (br_f (by decide) (br_f (by decide) (br_f (by decide) (br_t rfl hp))))
theorem hq_i3 {post : Int32 → Prop} (hp : post ge) : wpX_getInfo post (nI D, nI B, nI M, nI ic, ini, st, ge, gp, gd, xs, gx, c, s, gn, o1, o2, o3, o4, mp, mn, tk, sn, sb, it, pn, dc, ct, cn, sc, ss, sp) 3 := br_f (by decide) (br_f (by decide) (br_f (by decide) (br_f (by decide) (br_f (by decide) (br_t rfl hp)))))
theorem hq_i4 {post : Int32 → Prop} (hp : post gx) : wpX_getInfo post (nI D, nI B, nI M, nI ic, ini, st, ge, gp, gd, xs, gx, c, s, gn, o1, o2, o3, o4, mp, mn, tk, sn, sb, it, pn, dc, ct, cn, sc, ss, sp) 4 := br_f (by decide) (br_f (by decide) (br_f (by decide) (br_f (by decide) (br_f (by decide) (br_f (by decide) (br_t rfl hp))))))
theorem hq_gp {post : Int32 → Prop} {i n : Nat} (hn : n ≤ 32) (hi : i < n) (hg : gp = nI n) (hp : post (pn i)) : wpX_getPlanStep post (nI D, nI B, nI M, nI ic, ini, st, ge, gp, gd, xs, gx, c, s, gn, o1, o2, o3, o4, mp, mn, tk, sn, sb, it, pn, dc, ct, cn, sc, ss, sp) (nI i) := by
  subst hg
  have e1 : pn (nI i).toNatClampNeg = pn i := by rw [nI_clamp (by omega)]
  exact br_f (nI_pos (by omega)) (br_f (nI_ge hi (by omega)) ⟨vp_in_nI (by omega) (by decide), e1.symm ▸ hp⟩)
theorem hq_gd {post : Int32 → Prop} {i n : Nat} (hn : n ≤ 16) (hi : i < n) (hg : gd = nI n) (hp : post (dc i)) : wpX_getDecompMethod post (nI D, nI B, nI M, nI ic, ini, st, ge, gp, gd, xs, gx, c, s, gn, o1, o2, o3, o4, mp, mn, tk, sn, sb, it, pn, dc, ct, cn, sc, ss, sp) (nI i) := by
  subst hg
  have e1 : dc (nI i).toNatClampNeg = dc i := by rw [nI_clamp (by omega)]
  exact br_f (nI_pos (by omega)) (br_f (nI_ge hi (by omega)) ⟨vp_in_nI (by omega) (by decide), e1.symm ▸ hp⟩)
theorem hq_gt {post : Int32 → Prop} {i : Nat} (hn : ic ≤ 8) (hi : i < ic) (hp : post (it i)) : wpX_getInitialTask post (nI D, nI B, nI M, nI ic, ini, st, ge, gp, gd, xs, gx, c, s, gn, o1, o2, o3, o4, mp, mn, tk, sn, sb, it, pn, dc, ct, cn, sc, ss, sp) (nI i) := by
  have e1 : it (nI i).toNatClampNeg = it i := by rw [nI_clamp (by omega)]
  exact br_f (nI_pos (by omega)) (br_f (nI_ge hi (by omega)) ⟨vp_in_nI (by omega) (by decide), e1.symm ▸ hp⟩)
theorem hq_me0 {post : Int32 → Prop} {m q : Nat} (hM : M ≤ 32) (hm : m < M) (hq : sn m = nI q) (hq5 : q < 5) (hp : post (tk m)) : wpX_getMethodEntry post (nI D, nI B, nI M, nI ic, ini, st, ge, gp, gd, xs, gx, c, s, gn, o1, o2, o3, o4, mp, mn, tk, sn, sb, it, pn, dc, ct, cn, sc, ss, sp) (nI m) 0 := by
  have hi : vp_in (nI m) 32 := vp_in_nI (by omega) (by decide)
  have eq' : sn (nI m).toNatClampNeg = nI q := by rw [nI_clamp (by omega)]; exact hq
  have hl : (0 : Int32) ≤ sn (nI m).toNatClampNeg := by rw [eq']; exact nI_pos' (by omega)
  have e1 : tk (nI m).toNatClampNeg = tk m := by rw [nI_clamp (by omega)]
  unfold wpX_getMethodEntry
  exact br_f (nI_pos (by omega)) (br_f (nI_ge hm (by omega)) (br_f hp_1n0 (br_f (by decide) ⟨hi, br_t hl (br_t rfl ⟨hi, e1.symm ▸ hp⟩)⟩)))
theorem hq_mek {post : Int32 → Prop} {m q k : Nat} (hM : M ≤ 32) (hm : m < M) (hq : sn m = nI q) (hq5 : q < 5) (hk : k < q) (hp : post (sb (m * 4 + k))) : wpX_getMethodEntry post (nI D, nI B, nI M, nI ic, ini, st, ge, gp, gd, xs, gx, c, s, gn, o1, o2, o3, o4, mp, mn, tk, sn, sb, it, pn, dc, ct, cn, sc, ss, sp) (nI m) (nI (k + 1)) := by
  have hi : vp_in (nI m) 32 := vp_in_nI (by omega) (by decide)
  have eq' : sn (nI m).toNatClampNeg = nI q := by rw [nI_clamp (by omega)]; exact hq
  have hl : nI (k + 1) ≤ sn (nI m).toNatClampNeg := by rw [eq']; exact nI_le (by omega) (by omega)
  have hix : nI m * 4 + nI (k + 1) - 1 = nI (m * 4 + k) := by rw [hp_4, pk_mul, nI_add, ← Nat.add_assoc, nI_pred]
  have hv : vp_in (nI m * 4 + nI (k + 1) - 1) 128 := by rw [hix]; exact vp_in_nI (by omega) (by decide)
  have e1 : sb (nI m * 4 + nI (k + 1) - 1).toNatClampNeg = sb (m * 4 + k) := by rw [hix, nI_clamp (by omega)]
  unfold wpX_getMethodEntry
  exact br_f (nI_pos (by omega)) (br_f (nI_ge hm (by omega)) (br_f hp_1n0 (br_f (nI_pos (by omega)) ⟨hi, br_t hl (br_f (nI_ne0 (Nat.succ_pos k) (by omega)) ⟨hv, e1.symm ▸ hp⟩)⟩)))
theorem hq_men {post : Int32 → Prop} {m q k : Nat} (hM : M ≤ 32) (hm : m < M) (hq : sn m = nI q) (hq5 : q < 5) (hk : q < k) (hk5 : k < 6) (hp : post (-1)) : wpX_getMethodEntry post (nI D, nI B, nI M, nI ic, ini, st, ge, gp, gd, xs, gx, c, s, gn, o1, o2, o3, o4, mp, mn, tk, sn, sb, it, pn, dc, ct, cn, sc, ss, sp) (nI m) (nI k) := by
  have hi : vp_in (nI m) 32 := vp_in_nI (by omega) (by decide)
  have eq' : sn (nI m).toNatClampNeg = nI q := by rw [nI_clamp (by omega)]; exact hq
  have hl : ¬ nI k ≤ sn (nI m).toNatClampNeg := by rw [eq']; exact nI_ge hk (by omega)
  unfold wpX_getMethodEntry
  exact br_f (nI_pos (by omega)) (br_f (nI_ge hm (by omega)) (br_f hp_1n0 (br_f (nI_pos (by omega)) ⟨hi, br_f hl hp⟩)))
theorem hq_ex1 {post : Int32 → St2 → Prop} {i n : Nat} (h1 : st = 1) (hn : n ≤ 32) (hi : i < n) (hg : gp = nI n) (hpn : hp_nb 16 pn) (ha : hp_ap xs (o1 (pn i).toNatClampNeg) (o2 (pn i).toNatClampNeg)) (hp : post (pn i) (nI D, nI B, nI M, nI ic, ini, st, ge, gp, gd, (xs &&& (o4 (pn i).toNatClampNeg ^^^ (-1))) ||| o3 (pn i).toNatClampNeg, nI (i + 1), c, s, gn, o1, o2, o3, o4, mp, mn, tk, sn, sb, it, pn, dc, ct, cn, sc, ss, sp)) : wpX_executeStep post (nI D, nI B, nI M, nI ic, ini, st, ge, gp, gd, xs, nI i, c, s, gn, o1, o2, o3, o4, mp, mn, tk, sn, sb, it, pn, dc, ct, cn, sc, ss, sp) := by
  subst hg
  obtain ⟨j, hj, ej⟩ := hpn i
  have e1 : pn (nI i).toNatClampNeg = pn i := by rw [nI_clamp (by omega)]
  have hv : vp_in (pn i) 16 := by rw [ej]; exact vp_in_nI hj (by decide)
  exact br_t h1 (br_t (nI_lt hi (by omega)) ⟨vp_in_nI (by omega) (by decide), nm_r e1 ⟨hv, hv, hx_ap_t ha (br_f hp_1n0 ⟨hv, hv, nm_r (nI_1 i) hp⟩)⟩⟩)
theorem hq_ex0 {post : Int32 → St2 → Prop} {i n : Nat} (hn : n ≤ 32) (hi : n ≤ i) (hi2 : i ≤ 32) (hg : gp = nI n) (hp : post (-1) (nI D, nI B, nI M, nI ic, ini, st, ge, gp, gd, xs, nI i, c, s, gn, o1, o2, o3, o4, mp, mn, tk, sn, sb, it, pn, dc, ct, cn, sc, ss, sp)) : wpX_executeStep post (nI D, nI B, nI M, nI ic, ini, st, ge, gp, gd, xs, nI i, c, s, gn, o1, o2, o3, o4, mp, mn, tk, sn, sb, it, pn, dc, ct, cn, sc, ss, sp) := by
  subst hg
  exact br_c (fun _ => br_f (nI_nlt hi (by omega)) hp) (fun _ => hp)
theorem hq_exn {post : Int32 → St2 → Prop} (h1 : ¬ st = 1) (hp : post (-1) (nI D, nI B, nI M, nI ic, ini, st, ge, gp, gd, xs, gx, c, s, gn, o1, o2, o3, o4, mp, mn, tk, sn, sb, it, pn, dc, ct, cn, sc, ss, sp)) : wpX_executeStep post (nI D, nI B, nI M, nI ic, ini, st, ge, gp, gd, xs, gx, c, s, gn, o1, o2, o3, o4, mp, mn, tk, sn, sb, it, pn, dc, ct, cn, sc, ss, sp) := br_f h1 hp
end
end
section
def hq_pk : List Int32 → Nat
  | [] => 0
  | t :: L => t.toNatClampNeg + 32 * hq_pk L
theorem hq_p5 (n : Nat) : 2 ^ (5 * (n + 1)) = 32 * 2 ^ (5 * n) := by
  rw [Nat.mul_succ, Nat.pow_add, Nat.mul_comm]
theorem hq_vt_c {t : Int32} (h : hp_vt t) : t.toNatClampNeg < 32 ∧ t = nI t.toNatClampNeg := by
  obtain ⟨j, hj, e⟩ := h
  have hc : (nI j).toNatClampNeg = j := nI_clamp (by omega)
  rw [e, hc]
  exact ⟨hj, rfl⟩
theorem hq_pk_lt : ∀ (A : List Int32), (∀ t, t ∈ A → hp_vt t) → hq_pk A < 2 ^ (5 * A.length) := by
  intro A
  induction A with
  | nil => intro _; exact Nat.one_pos
  | cons t A ih =>
    intro h
    have h1 := ih (fun x hx => h x (List.mem_cons_of_mem t hx))
    have h2 := (hq_vt_c (h t List.mem_cons_self)).1
    show t.toNatClampNeg + 32 * hq_pk A < 2 ^ (5 * (A.length + 1))
    rw [hq_p5]
    omega
theorem hq_pk_app : ∀ (A B : List Int32), hq_pk (A ++ B) = hq_pk A + hq_pk B * 2 ^ (5 * A.length) := by
  intro A B
  induction A with
  | nil => show hq_pk B = 0 + hq_pk B * 1; omega
  | cons t A ih =>
    show t.toNatClampNeg + 32 * hq_pk (A ++ B) = t.toNatClampNeg + 32 * hq_pk A + hq_pk B * 2 ^ (5 * (A.length + 1))
    rw [ih, hq_p5, Nat.mul_left_comm]
    omega
theorem hq_pk_64 {A : List Int32} (h : ∀ t, t ∈ A → hp_vt t) (hl : A.length ≤ 12) : hq_pk A < 2 ^ 64 := Nat.lt_of_lt_of_le (hq_pk_lt A h) (Nat.pow_le_pow_right (by decide) (by omega))
theorem hq_5 (k : Nat) : (5 : Int32) * nI k = nI (5 * k) := pk_mul 5 k
theorem hq_mem_app {A B : List Int32} (hA : ∀ t, t ∈ A → hp_vt t) (hB : ∀ t, t ∈ B → hp_vt t) : ∀ t, t ∈ A ++ B → hp_vt t := by
  intro t ht
  rcases List.mem_append.mp ht with h | h
  · exact hA t h
  · exact hB t h
theorem hq_or {A B : List Int32} {k : Nat} (hk : A.length = k) (hA : ∀ t, t ∈ A → hp_vt t) (hB : ∀ t, t ∈ B → hp_vt t) (hl : A.length + B.length ≤ 12) : lN (hq_pk A) ||| (lN (hq_pk B) <<< ((5 * nI k).toInt64 &&& 63)) = lN (hq_pk (A ++ B)) := by
  subst hk
  have h1 := hq_pk_64 (hq_mem_app hA hB) (by rw [List.length_append]; exact hl)
  rw [hq_pk_app] at h1
  rw [hq_5, wb_shl _ (by omega), g_or' (k := 5 * A.length) rfl (hq_pk_lt A hA) h1, hq_pk_app]
theorem hq_or0 {B : List Int32} (hB : ∀ t, t ∈ B → hp_vt t) (hl : B.length ≤ 12) : lN (hq_pk []) ||| lN (hq_pk B) = lN (hq_pk B) := by
  have h1 := hq_pk_64 hB hl
  have h2 := g_or' (k := 0) (p := 1) (a := 0) (b := hq_pk B) rfl (by decide) (by omega)
  rw [Nat.mul_one, Nat.zero_add] at h2
  exact h2
theorem hq_one {t : Int32} (h : hp_vt t) : t.toInt64 = lN (hq_pk [t]) := by
  obtain ⟨h1, h2⟩ := hq_vt_c h
  have h3 : (nI t.toNatClampNeg).toInt64 = lN t.toNatClampNeg := nI_l (by omega)
  rw [← h2] at h3
  exact h3
theorem hq_or1 {A : List Int32} {t : Int32} {k : Nat} (hk : A.length = k) (hA : ∀ t, t ∈ A → hp_vt t) (ht : hp_vt t) (hl : k < 12) : lN (hq_pk A) ||| (t.toInt64 <<< ((5 * nI k).toInt64 &&& 63)) = lN (hq_pk (A ++ [t])) := by
  rw [hq_one ht]
  refine hq_or hk hA (fun x hx => ?_) ?_
  · rw [List.mem_singleton.mp hx]; exact ht
  · show A.length + 1 ≤ 12
    omega
theorem hq_head {t : Int32} {L : List Int32} (h : ∀ x, x ∈ t :: L → hp_vt x) (hl : (t :: L).length ≤ 12) : (lN (hq_pk (t :: L)) &&& 31).toInt32 = t := by
  obtain ⟨h1, h2⟩ := hq_vt_c (h t List.mem_cons_self)
  have h3 := wb_mask (k := 5) (hq_pk_64 h hl) (by decide)
  have h4 : hq_pk (t :: L) % 2 ^ 5 = t.toNatClampNeg := by
    show (t.toNatClampNeg + 32 * hq_pk L) % 32 = t.toNatClampNeg
    omega
  have h5 : (lN (hq_pk (t :: L)) &&& 31) = lN t.toNatClampNeg := by rw [← h4]; exact h3
  rw [h5, lN_i]
  exact h2.symm
theorem hq_tail {t : Int32} {L : List Int32} (h : ∀ x, x ∈ t :: L → hp_vt x) (hl : (t :: L).length ≤ 12) : ((lN (hq_pk (t :: L))).toUInt64 >>> ((5 : Int32).toInt64.toUInt64 &&& Int64.toUInt64 63)).toInt64 = lN (hq_pk L) := by
  obtain ⟨h1, _⟩ := hq_vt_c (h t List.mem_cons_self)
  have h3 := wb_shr (k := 5) (hq_pk_64 h hl) (by decide)
  have h4 : hq_pk (t :: L) / 2 ^ 5 = hq_pk L := by
    show (t.toNatClampNeg + 32 * hq_pk L) / 32 = hq_pk L
    omega
  rw [h4] at h3
  exact h3
def hq_s (ef : Int64 → Nat → Int64) (pn : Nat → Int32) (ini : Int64) : Nat → Int64
  | 0 => ini
  | i + 1 => ef (hq_s ef pn ini i) (pn i).toNatClampNeg
section
variable {M : Nat} {tk : Nat → Int32} {sb : Nat → List Int32} {ok : Int64 → Nat → Prop} {ef : Int64 → Nat → Int64} {mk : Int64 → Nat → Prop}
theorem hq_rep_c {n dl : Nat} {pn dc pn2 dc2 : Nat → Int32} (h1 : ∀ i, i < n → pn2 i = pn i) (h2 : ∀ i, i < dl → dc2 i = dc i) : ∀ (f : Nat) (L : List Int32) (s : Int64) (pi di : Nat), hq_rep M tk sb ok ef mk n dl pn dc f L s pi di → hq_rep M tk sb ok ef mk n dl pn2 dc2 f L s pi di := by
  intro f
  induction f with
  | zero => intro L s pi di h; exact h
  | succ f ih =>
    intro L s pi di h
    obtain ⟨t, L', e, h⟩ := h
    refine ⟨t, L', e, ?_⟩
    rcases h with ⟨a1, a2, a3, a4, a5⟩ | ⟨a1, a2, m, a3, a4, a5, a6, a7⟩
    · exact Or.inl ⟨a1, a2, (h1 pi a2).trans a3, a4, ih _ _ _ _ a5⟩
    · exact Or.inr ⟨a1, a2, m, a3, (h2 di a2).trans a4, a5, a6, ih _ _ _ _ a7⟩
theorem hq_rep_ok {n dl : Nat} {pn dc : Nat → Int32} {ini : Int64} : ∀ (f : Nat) (L : List Int32) (s : Int64) (pi di : Nat), hq_rep M tk sb ok ef mk n dl pn dc f L s pi di → s = hq_s ef pn ini pi → ∀ i, pi ≤ i → i < n → ok (hq_s ef pn ini i) (pn i).toNatClampNeg := by
  intro f
  induction f with
  | zero =>
    intro L s pi di h _ i h1 h2
    obtain ⟨_, e, _⟩ := h
    omega
  | succ f ih =>
    intro L s pi di h hs i h1 h2
    obtain ⟨t, L', e, h⟩ := h
    rcases h with ⟨a1, a2, a3, a4, a5⟩ | ⟨a1, a2, m, a3, a4, a5, a6, a7⟩
    · by_cases hi : i = pi
      · rw [hi, ← hs, a3]
        exact a4
      · refine ih _ _ _ _ a5 ?_ i (by omega) h2
        show ef s t.toNatClampNeg = ef (hq_s ef pn ini pi) (pn pi).toNatClampNeg
        rw [hs, a3]
    · exact ih _ _ _ _ a7 hs i h1 h2
end
end
section
theorem hq_app_t {post : Int32 → Prop} {s p n : Int64} (h : hp_ap s p n) (hp : post 1) : wpL_app post () s p n := br_t h.1 (br_t h.2 hp)
section
variable {D B M ic : Nat} {ini : Int64} {st ge gp gd gx gn : Int32} {xs : Int64} {c : Int32} {s : Int64} {o1 o2 o3 o4 mp mn : Nat → Int64} {tk sn sb it pn dc ct cn sc : Nat → Int32} {ss : Nat → Int64} {sp : Nat → Int32} {R : hp_R} {L kc ks : Nat} {sx : Nat → Int32} {post : Int32 → Prop}
theorem hq_gv0 {post : Int64 → Prop} {t : Int32} {j : Nat} (ht : t = nI j) (hj : j < 16) (hp : post (o1 t.toNatClampNeg)) : wpX_getSet post (nI D, nI B, nI M, nI ic, ini, st, ge, gp, gd, xs, gx, c, s, gn, o1, o2, o3, o4, mp, mn, tk, sn, sb, it, pn, dc, ct, cn, sc, ss, sp) 0 t := by
  subst ht
  rw [nI_clamp (by omega)] at hp
  exact hq_gs0 hj hp
theorem hq_gv1 {post : Int64 → Prop} {t : Int32} {j : Nat} (ht : t = nI j) (hj : j < 16) (hp : post (o2 t.toNatClampNeg)) : wpX_getSet post (nI D, nI B, nI M, nI ic, ini, st, ge, gp, gd, xs, gx, c, s, gn, o1, o2, o3, o4, mp, mn, tk, sn, sb, it, pn, dc, ct, cn, sc, ss, sp) 1 t := by
  subst ht
  rw [nI_clamp (by omega)] at hp
  exact hq_gs1 hj hp
theorem hq_gv2 {post : Int64 → Prop} {t : Int32} {j : Nat} (ht : t = nI j) (hj : j < 16) (hp : post (o3 t.toNatClampNeg)) : wpX_getSet post (nI D, nI B, nI M, nI ic, ini, st, ge, gp, gd, xs, gx, c, s, gn, o1, o2, o3, o4, mp, mn, tk, sn, sb, it, pn, dc, ct, cn, sc, ss, sp) 2 t := by
  subst ht
  rw [nI_clamp (by omega)] at hp
  exact hq_gs2 hj hp
theorem hq_gv3 {post : Int64 → Prop} {t : Int32} {j : Nat} (ht : t = nI j) (hj : j < 16) (hp : post (o4 t.toNatClampNeg)) : wpX_getSet post (nI D, nI B, nI M, nI ic, ini, st, ge, gp, gd, xs, gx, c, s, gn, o1, o2, o3, o4, mp, mn, tk, sn, sb, it, pn, dc, ct, cn, sc, ss, sp) 3 t := by
  subst ht
  rw [nI_clamp (by omega)] at hp
  exact hq_gs3 hj hp
theorem hq_gdr {post : Int32 → Prop} {i n : Nat} {r : Int32} (hn : n ≤ 16) (hi : i < n) (hg : gd = nI n) (hr : dc i = r) (hp : post r) : wpX_getDecompMethod post (nI D, nI B, nI M, nI ic, ini, st, ge, gp, gd, xs, gx, c, s, gn, o1, o2, o3, o4, mp, mn, tk, sn, sb, it, pn, dc, ct, cn, sc, ss, sp) (nI i) := hq_gd hn hi hg (hr.symm ▸ hp)
theorem hq_1112 {z0 z1 : Int32} (hPL : hq_PL D B M ic ini o1 o2 o3 o4 mp mn tk sn sb it R) (h1 : R.1 = 1) (hpn : hp_nb 16 pn) (hdc : hp_nb 32 dc) (hp : post 1) (hz : z1 = z0) : wL_law_1112 post L sx R.1 (nI R.2.2.2.1) (nI R.2.1) (nI R.2.2.1) z0 z1 kc ks (nI D) (nI B) (nI M) (nI ic) ini st ge gp gd xs gx c s gn o1 o2 o3 o4 mp mn tk sn sb it pn dc ct cn sc ss sp := by
  refine br_t hz (hPL _ _ _ _ _ _ _ _ _ _ _ _ _ _ _ _ _ hpn hdc ?_ (fun z => absurd h1 z))
  intro _ c s gn ct cn sc ss sp pn dc _ _ _ _
  exact br_t rfl (hq_i3 (br_t rfl (hq_i1 (br_t rfl (hq_i2 (br_t rfl hp))))))
theorem hq_926 (hPL : hq_PL D B M ic ini o1 o2 o3 o4 mp mn tk sn sb it R) (h1 : R.1 = 1) (hn : R.2.1 ≤ 32) (hpn : hp_nb 16 pn) (hdc : hp_nb 32 dc) (hok : ∀ i, i < R.2.1 → hp_ap (hq_s (fun s j => (s &&& (o4 j ^^^ (-1))) ||| o3 j) pn ini i) (o1 (pn i).toNatClampNeg) (o2 (pn i).toNatClampNeg)) (hp : post 1) : ∀ (k i : Nat), i + k = R.2.1 → wL_law_926 post L sx ini R.1 (nI R.2.2.2.1) (nI R.2.1) (nI R.2.2.1) (hq_s (fun s j => (s &&& (o4 j ^^^ (-1))) ||| o3 j) pn ini R.2.1) kc ks (k + 1) (hq_s (fun s j => (s &&& (o4 j ^^^ (-1))) ||| o3 j) pn ini i) (nI i) (nI D) (nI B) (nI M) (nI ic) ini R.1 (nI R.2.2.2.1) (nI R.2.1) (nI R.2.2.1) (hq_s (fun s j => (s &&& (o4 j ^^^ (-1))) ||| o3 j) pn ini i) (nI i) c s gn o1 o2 o3 o4 mp mn tk sn sb it pn dc ct cn sc ss sp := by
  intro k
  induction k with
  | zero =>
    intro i hi
    have hi' : i = R.2.1 := by omega
    rw [hi']
    refine br_t (nI_le (Nat.le_refl _) (by omega)) (hq_ex0 hn (Nat.le_refl _) hn rfl (br_t rfl (hq_ex0 hn (Nat.le_refl _) hn rfl (br_t rfl (br_t rfl (br_t rfl (br_t rfl (hq_i4 (br_t rfl ?_)))))))))
    by_cases h0 : R.2.1 = 0
    · exact hq_ex0 (i := 0) hn (by omega) (by decide) rfl (br_t (nI_le (b := 0) (by omega) (by decide)) (hq_1112 hPL h1 hpn hdc hp rfl))
    · exact hq_ex1 (i := 0) h1 hn (by omega) rfl hpn (hok 0 (by omega)) (br_f (nI_nle (by omega) (by omega)) (hq_gp (i := 0) hn (by omega) rfl (hq_1112 hPL h1 hpn hdc hp rfl)))
  | succ k ih =>
    intro i hi
    have hi2 : i < R.2.1 := by omega
    obtain ⟨j, hj, ej⟩ := hpn i
    have n0 : ¬ pn i < 0 := by rw [ej]; exact nI_pos (by omega)
    have n15 : ¬ 15 < pn i := by rw [ej]; exact nI_nlt (a := 15) (by omega) (by decide)
    have e1 : (hq_s (fun s j => (s &&& (o4 j ^^^ (-1))) ||| o3 j) pn ini i &&& (o4 (pn i).toNatClampNeg ^^^ (-1))) ||| o3 (pn i).toNatClampNeg = hq_s (fun s j => (s &&& (o4 j ^^^ (-1))) ||| o3 j) pn ini (i + 1) := rfl
    refine br_f (nI_ge hi2 (by omega)) (hq_gp hn hi2 rfl (br_f n0 (br_f n15 (hq_ex1 h1 hn hi2 rfl hpn (hok i hi2) (br_t rfl ?_)))))
    exact hq_gv3 ej hj (hq_gv2 ej hj (nm_r e1 (br_t rfl (hq_i4 (br_t (nI_1 i).symm (nm_r (nI_1 i) (ih (i + 1) (by omega))))))))
theorem hq_876 {x15 x18 x19 : Int32} {x16 : Int64} (hPL : hq_PL D B M ic ini o1 o2 o3 o4 mp mn tk sn sb it R) (h1 : R.1 = 1) (hn : R.2.1 ≤ 32) (hpn : hp_nb 16 pn) (hdc : hp_nb 32 dc) (hok : ∀ i, i < R.2.1 → hp_ap (hq_s (fun s j => (s &&& (o4 j ^^^ (-1))) ||| o3 j) pn ini i) (o1 (pn i).toNatClampNeg) (o2 (pn i).toNatClampNeg)) (hp : post 1) (h15 : x15 = 0) (h18 : x18 = nI R.2.1) (h19 : x19 = nI R.2.2.1) (h16 : x16 = hq_s (fun s j => (s &&& (o4 j ^^^ (-1))) ||| o3 j) pn ini R.2.1) : wL_law_876 post L sx ini R.1 (nI R.2.2.2.1) (nI R.2.1) (nI R.2.2.1) x15 x16 x18 x19 kc ks (nI D) (nI B) (nI M) (nI ic) ini R.1 (nI R.2.2.2.1) (nI R.2.1) (nI R.2.2.1) ini 0 c s gn o1 o2 o3 o4 mp mn tk sn sb it pn dc ct cn sc ss sp := by
  subst h16
  exact br_t h15 (br_t h18 (br_t h19 (br_t rfl (hq_i4 (br_t rfl ⟨R.2.1 + 1, hq_926 hPL h1 hn hpn hdc hok hp R.2.1 0 (Nat.zero_add _)⟩)))))
theorem hq_779 {J : Int64 → Int32 → Int64 → Int32 → Int32 → Int32 → Prop} {x5 x16 : Int64} {x7 x9 x10 x11 x12 x18 : Int32} {m q di y : Nat} {A : List Int32} (hM : M ≤ 32) (hm : m < M) (hq : sn m = nI q) (hq4 : q < 4) (hsb : hp_nb 32 sb) (hA : ∀ t, t ∈ A → hp_vt t) (hAl : A.length + q ≤ 12) (hp : J (lN (hq_pk (hp_sl (fun i => sb (m * 4 + i)) 0 q ++ A))) (nI (A.length + q)) x16 x18 (nI (di + 1)) (nI (y + 1))) : ∀ (k i : Nat), i + k = q → wL_law_779 post L sx J x5 x7 x9 x10 x11 x12 (lN (hq_pk A)) (nI A.length) x16 x18 (nI di) (nI y) (nI m) kc ks (nI D) (nI B) (nI M) (nI ic) ini st ge gp gd xs gx c s gn o1 o2 o3 o4 mp mn tk sn sb it pn dc ct cn sc ss sp (k + 1) (nI i) (lN (hq_pk (hp_sl (fun i => sb (m * 4 + i)) 0 i))) (nI (i + 1)) := by
  intro k
  induction k with
  | zero =>
    intro i hi
    have hi' : i = q := by omega
    rw [hi']
    have hS : ∀ t, t ∈ hp_sl (fun i => sb (m * 4 + i)) 0 q → hp_vt t := hp_sl_mem (fun i => hsb (m * 4 + i)) q 0
    have h12 : nI A.length + nI q ≤ 12 := by rw [nI_add]; exact nI_le (b := 12) hAl (by decide)
    refine br_f (nI_nlt (a := 4) (by omega) (by decide)) (hq_men hM hm hq (by omega) (Nat.lt_succ_self q) (by omega) (br_f (by decide) (br_t h12 ?_)))
    by_cases h0 : q = 0
    · subst h0
      exact br_t nI_0 (nm_r (hq_or0 hA (by omega)) (nm_r (nI_add _ _) (nm_r (nI_1 di) (nm_r (nI_1 y) hp))))
    · exact br_f (nI_ne0 (by omega) (by omega)) (nm_r (hq_or (hp_sl_len _ q 0) hS hA (by rw [hp_sl_len]; omega)) (nm_r (nI_add _ _) (nm_r (nI_1 di) (nm_r (nI_1 y) hp))))
  | succ k ih =>
    intro i hi
    have hS : ∀ t, t ∈ hp_sl (fun i => sb (m * 4 + i)) 0 i → hp_vt t := hp_sl_mem (fun i => hsb (m * 4 + i)) i 0
    have hv : hp_vt (sb (m * 4 + i)) := hsb (m * 4 + i)
    have h0 : (0 : Int32) ≤ sb (m * 4 + i) := by
      obtain ⟨j, hj, ej⟩ := hv
      rw [ej]
      exact nI_pos' (by omega)
    have e1 : lN (hq_pk (hp_sl (fun i => sb (m * 4 + i)) 0 i)) ||| ((sb (m * 4 + i)).toInt64 <<< ((5 * nI i).toInt64 &&& 63)) = lN (hq_pk (hp_sl (fun i => sb (m * 4 + i)) 0 (i + 1))) := by
      rw [hq_or1 (hp_sl_len _ i 0) hS hv (by omega), hp_sl_snoc, Nat.zero_add]
    exact br_f (nI_nlt (a := 4) (by omega) (by decide)) (hq_mek hM hm hq (by omega) (by omega) (br_t h0 (nm_r e1 (nm_r (nI_1 i) (nm_r (nI_1 (i + 1)) (ih (i + 1) (by omega)))))))
theorem hq_583 (hPL : hq_PL D B M ic ini o1 o2 o3 o4 mp mn tk sn sb it R) (h1 : R.1 = 1) (hn : R.2.1 ≤ 32) (hdl : R.2.2.1 ≤ 4) (hM : M ≤ 32) (hsn : hp_nb 4 sn) (hsb : hp_nb 32 sb) (hpn : hp_nb 16 pn) (hdc : hp_nb 32 dc) (hok : ∀ i, i < R.2.1 → hp_ap (hq_s (fun s j => (s &&& (o4 j ^^^ (-1))) ||| o3 j) pn ini i) (o1 (pn i).toNatClampNeg) (o2 (pn i).toNatClampNeg)) (hp : post 1) : ∀ (f : Nat) (A : List Int32) (s' : Int64) (pi di : Nat), hq_rep M tk (fun m => hp_sl (fun i => sb (m * 4 + i)) 0 (sn m).toNatClampNeg) (fun s j => hp_ap s (o1 j) (o2 j)) (fun s j => (s &&& (o4 j ^^^ (-1))) ||| o3 j) (fun s m => hp_ap s (mp m) (mn m)) R.2.1 R.2.2.1 pn dc f A s' pi di → s' = hq_s (fun s j => (s &&& (o4 j ^^^ (-1))) ||| o3 j) pn ini pi → (∀ t, t ∈ A → hp_vt t) → A.length ≤ 3 + 2 * di → di ≤ 4 → pi + di + f < 64 → wL_law_583 post L sx ini (nI M) R.1 (nI R.2.2.2.1) (nI R.2.1) (nI R.2.2.1) kc ks (nI D) (nI B) (nI M) (nI ic) ini R.1 (nI R.2.2.2.1) (nI R.2.1) (nI R.2.2.1) ini 0 c s gn o1 o2 o3 o4 mp mn tk sn sb it pn dc ct cn sc ss sp (f + 1) (lN (hq_pk A)) (nI A.length) s' (nI pi) (nI di) (nI (pi + di)) := by
  intro f
  induction f with
  | zero =>
    intro A s' pi di hr hs hA hl hd4 hf
    obtain ⟨e1, e2, e3⟩ := hr
    subst e1
    exact br_f (nI_ge (b := 64) (by omega) (by decide)) (br_t (nI_le (a := 0) (b := 0) (Nat.le_refl 0) (by decide)) (hq_876 hPL h1 hn hpn hdc hok hp rfl (congrArg nI e2) (congrArg nI e3) (by rw [hs, e2])))
  | succ f ih =>
    intro A s' pi di hr hs hA hl hd4 hf
    obtain ⟨t, A', e, hr⟩ := hr
    subst e
    have hlc : (t :: A').length = A'.length + 1 := rfl
    have hA' : ∀ x, x ∈ A' → hp_vt x := fun x hx => hA x (List.mem_cons_of_mem t hx)
    have hpos : ¬ nI (t :: A').length ≤ 0 := nI_nle (by omega) (by omega)
    refine br_f (nI_ge (b := 64) (by omega) (by decide)) (br_f hpos (nm_r (hq_head hA (by omega)) (nm_r (hq_tail hA (by omega)) (nm_r (pk_m1 A'.length) ?_))))
    rcases hr with ⟨a1, a2, a3, a4, a5⟩ | ⟨a1, a2, m, a3, a4, a5, a6, a7⟩
    · obtain ⟨j, hj, ej⟩ := hp_vt_lt (hA t List.mem_cons_self) a1
      have e9 : nI (pi + di) + 1 = nI (pi + 1 + di) := by rw [nI_1, Nat.add_right_comm]
      refine br_f (fun z => Int32.not_lt.mpr z a1) (br_f (nI_ge a2 (by omega)) (hq_gp hn a2 rfl (br_t a3 (hq_gv0 ej hj (hq_gv1 ej hj (hq_app_t a4 (br_f hp_1n0 ?_)))))))
      refine hq_gv3 ej hj (hq_gv2 ej hj (nm_e (nm_r (nI_1 pi) (nm_r e9 (ih A' _ (pi + 1) di a5 ?_ hA' (by omega) hd4 (by omega))))))
      show (s' &&& (o4 t.toNatClampNeg ^^^ (-1))) ||| o3 t.toNatClampNeg = (hq_s (fun s j => (s &&& (o4 j ^^^ (-1))) ||| o3 j) pn ini pi &&& (o4 (pn pi).toNatClampNeg ^^^ (-1))) ||| o3 (pn pi).toNatClampNeg
      rw [a3, hs]
    · obtain ⟨q1, q2⟩ := hp_nb_c hsn (by decide) m
      have q5 : hp_nb 32 sb := hsb
      refine br_t (Int32.not_lt.mp a1) (br_t (nI_lt a2 (by omega)) (hq_gdr (by omega) a2 rfl a4 (br_f (nI_pos (by omega)) (br_f (nI_ge a3 (by omega)) (hq_me0 hM a3 q2 (by omega) (br_t a5 (hq_gs4 hM a3 (hq_gs5 hM a3 (hq_app_t a6 (br_f hp_1n0 ⟨(sn m).toNatClampNeg + 1, ?_⟩))))))))))
      refine hq_779 (q := (sn m).toNatClampNeg) hM a3 q2 q1 hsb hA' (by omega) ?_ (sn m).toNatClampNeg 0 (Nat.zero_add _)
      have hS : ∀ x, x ∈ hp_sl (fun i => sb (m * 4 + i)) 0 (sn m).toNatClampNeg → hp_vt x := hp_sl_mem (fun i => hsb (m * 4 + i)) _ 0
      have h9 := ih (hp_sl (fun i => sb (m * 4 + i)) 0 (sn m).toNatClampNeg ++ A') s' pi (di + 1) a7 hs (hq_mem_app hS hA') (by rw [List.length_append, hp_sl_len]; omega) (by omega) (by omega)
      rw [List.length_append, hp_sl_len, Nat.add_comm (sn m).toNatClampNeg A'.length, ← Nat.add_assoc] at h9
      exact h9
theorem hq_536 (hPL : hq_PL D B M ic ini o1 o2 o3 o4 mp mn tk sn sb it R) (h1 : R.1 = 1) (hn : R.2.1 ≤ 32) (hdl : R.2.2.1 ≤ 4) (hM : M ≤ 32) (hic : ic ≤ 3) (hsn : hp_nb 4 sn) (hsb : hp_nb 32 sb) (hit : hp_nb 32 it) (hpn : hp_nb 16 pn) (hdc : hp_nb 32 dc) (hrep : hq_rep M tk (fun m => hp_sl (fun i => sb (m * 4 + i)) 0 (sn m).toNatClampNeg) (fun s j => hp_ap s (o1 j) (o2 j)) (fun s j => (s &&& (o4 j ^^^ (-1))) ||| o3 j) (fun s m => hp_ap s (mp m) (mn m)) R.2.1 R.2.2.1 pn dc (R.2.1 + R.2.2.1) (hp_sl it 0 ic) ini 0 0) (hp : post 1) : ∀ (k i : Nat), i + k = ic → wL_law_536 post L sx ini (nI M) (nI ic) R.1 (nI R.2.2.2.1) (nI R.2.1) (nI R.2.2.1) kc ks (nI D) (nI B) (nI M) (nI ic) ini R.1 (nI R.2.2.2.1) (nI R.2.1) (nI R.2.2.1) ini 0 c s gn o1 o2 o3 o4 mp mn tk sn sb it pn dc ct cn sc ss sp (k + 1) (lN (hq_pk (hp_sl it 0 i))) (nI i) (nI i) := by
  have hok : ∀ i, i < R.2.1 → hp_ap (hq_s (fun s j => (s &&& (o4 j ^^^ (-1))) ||| o3 j) pn ini i) (o1 (pn i).toNatClampNeg) (o2 (pn i).toNatClampNeg) := fun i hi => hq_rep_ok (ini := ini) _ _ _ _ _ hrep rfl i (Nat.zero_le i) hi
  intro k
  induction k with
  | zero =>
    intro i hi
    have hi' : i = ic := by omega
    rw [hi']
    have hl : (hp_sl it 0 ic).length = ic := hp_sl_len it ic 0
    have h9 := hq_583 (kc := kc) (ks := ks) (L := L) (sx := sx) (c := c) (s := s) (gn := gn) (ct := ct) (cn := cn) (sc := sc) (ss := ss) (sp := sp) hPL h1 hn hdl hM hsn hsb hpn hdc hok hp (R.2.1 + R.2.2.1) (hp_sl it 0 ic) ini 0 0 hrep rfl (hp_sl_mem (fun i => hit i) ic 0) (by omega) (by omega) (by omega)
    rw [hl] at h9
    exact br_t (nI_le (Nat.le_refl _) (by omega)) ⟨_, h9⟩
  | succ k ih =>
    intro i hi
    have e1 : lN (hq_pk (hp_sl it 0 i)) ||| ((it i).toInt64 <<< ((5 * nI i).toInt64 &&& 63)) = lN (hq_pk (hp_sl it 0 (i + 1))) := by
      rw [hq_or1 (hp_sl_len _ i 0) (hp_sl_mem (fun i => hit i) i 0) (hit i) (by omega), hp_sl_snoc, Nat.zero_add]
    exact br_f (nI_ge (by omega) (by omega)) (hq_gt (by omega) (by omega) (nm_r e1 (nm_r (nI_1 i) (nm_r (nI_1 i) (ih (i + 1) (by omega))))))
end
end
section
theorem hq_cell {post : Int32 → Prop} {L p : Nat} {sx : Nat → Int32} (hL : L ≤ 260) (hp : p < 2 ^ 31) (h : ∀ r, post r) : wpL_cell post L sx () (nI p) := by
  by_cases hl : L ≤ p
  · exact br_t (nI_le hl hp) (h 0)
  · exact br_f (nI_ge (by omega) (by omega)) ⟨vp_in_nI (by omega) (by omega), h _⟩
theorem hq_lo {post : Int64 → Prop} {r : Int32} (h : ∀ v, post v) : wpL_lo post () r := h _
theorem hq_hi {post : Int64 → Prop} {r : Int32} (h : ∀ v, post v) : wpL_hi post () r := h _
theorem hq_task {post : Int32 → Prop} {r : Int32} (h : ∀ t : Nat, t < 32 → post (nI t)) : wpL_task post () r := by
  obtain ⟨j, hj, e⟩ := pk_andE r (m := 15) 4 (by decide)
  refine nm_r e ?_
  by_cases h8 : 8 ≤ j
  · obtain ⟨q, hq, e2⟩ := pk_andE (nI j) (m := 3) 2 (by decide)
    have e3 : (16 : Int32) + (nI j &&& 3) = nI (16 + q) := by rw [e2]; exact nI_add 16 q
    refine br_t (nI_le (a := 8) h8 (by omega)) ?_
    rw [e3]
    exact h (16 + q) (by omega)
  · exact br_f (nI_ge (b := 8) (by omega) (by decide)) (h j (by omega))
theorem hq_nb45 {f : Nat → Int32} (h : hp_nb 4 f) : hp_nb 5 f := fun i => by
  obtain ⟨m, hm, e⟩ := h i
  exact ⟨m, by omega, e⟩
section
variable {D B M : Nat} {ini : Int64} {gn : Int32} {c : Int32} {s : Int64} {o1 o2 o3 o4 mp mn : Nat → Int64} {tk sn sb pn dc ct cn sc : Nat → Int32} {ss : Nat → Int64} {sp : Nat → Int32} {L kc ks : Nat} {sx : Nat → Int32} {post : Int32 → Prop}
theorem hq_357 {IC : Nat} (hL : L ≤ 260) (hD : D ≤ 4) (hB : B ≤ 128) (hM : M ≤ 32) (hIC : IC ≤ 3) (hsn : hp_nb 4 sn) (hsb : hp_nb 32 sb) (hpn : hp_nb 16 pn) (hdc : hp_nb 32 dc) (hp : post 1) : ∀ (k i p : Nat) (it : Nat → Int32), i + k = IC → p + k < 1000 → hp_nb 32 it → wL_law_357 post L sx (nI D) (nI B) ini (nI M) (nI IC) kc ks (k + 1) (nI p) (nI i) (nI D) (nI B) (nI M) (nI i) ini 0 0 0 0 ini 0 c s gn o1 o2 o3 o4 mp mn tk sn sb it pn dc ct cn sc ss sp := by
  intro k
  induction k with
  | zero =>
    intro i p it hi hpb hit
    have hi' : i = IC := by omega
    rw [hi']
    obtain ⟨R, ⟨r1, r2, r3, r4, r5⟩, hst, hdl, hrep, hPL⟩ := hq_plan (D := D) (B := B) (M := M) (ic := IC) ini o1 o2 o3 o4 mp mn tk hM (by omega) (by omega) (by omega) (hq_nb45 hsn) hsb hit
    have n1 : ¬ R.1 < 1 := by rcases hst with e | e | e <;> (rw [e]; decide)
    have n3 : ¬ 3 < R.1 := by rcases hst with e | e | e <;> (rw [e]; decide)
    refine br_t (nI_le (Nat.le_refl _) (by omega)) (hPL _ _ _ _ _ _ _ _ _ _ _ _ _ _ _ _ _ hpn hdc ?_ ?_)
    · intro h1 c s gn ct cn sc ss sp pn dc a1 a2 a3 a4
      refine br_f n1 (br_f n3 (hq_i0 (br_t rfl (hq_i3 (br_f (nI_pos (by omega)) (br_t (nI_le r3 (by omega)) (hq_i1 (hq_i2 (br_t h1 (br_f (nI_pos (by omega)) (br_f (nI_nlt (a := 32) r1 (by decide)) (br_f (nI_pos (by omega)) (br_t (nI_le hdl (by omega)) ⟨IC + 1, ?_⟩)))))))))))))
      exact hq_536 hPL h1 r1 (by omega) hM hIC hsn hsb hit a1 a2 (hq_rep_c a3 a4 _ _ _ _ _ (hrep h1)) hp IC 0 (Nat.zero_add _)
    · intro h1 c s gn ct cn sc ss sp pn dc
      exact br_f n1 (br_f n3 (hq_i0 (br_t rfl (hq_i3 (br_f (nI_pos (by omega)) (br_t (nI_le r3 (by omega)) (hq_i1 (hq_i2 (br_f h1 (br_t rfl (br_t rfl (hq_exn h1 (br_t rfl (br_t rfl hp))))))))))))))
  | succ k ih =>
    intro i p it hi hpb hit
    refine br_f (nI_ge (by omega) (by omega)) (nm_r (nI_1 p) (hq_cell hL (by omega) (fun r => hq_task (fun t ht => hq_ai ht (by omega) (br_f hp_1n0 (nm_r (nI_1 i) (ih (i + 1) (p + 1) (upd it i (nI t)) (by omega) (by omega) (hp_nb_u hit i ⟨t, ht, rfl⟩))))))))
theorem hq_296 {mc i ns n : Nat} (hL : L ≤ 260) (hi : i < 8) (hns : ns < 4) : ∀ (k j p : Nat) (sn sb : Nat → Int32), j + k = ns → p + k < 1000 → sn i = nI j → hp_nb 4 sn → hp_nb 32 sb → (∀ q, i + 1 ≤ q → sn q = 0) → (∀ (p' : Nat) (sn' sb' : Nat → Int32), p' ≤ p + k → hp_nb 4 sn' → hp_nb 32 sb' → (∀ q, i + 1 ≤ q → sn' q = 0) → wL_law_203 post L sx (nI D) (nI B) ini (nI mc) kc ks n (nI p') (nI (i + 1)) (nI D) (nI B) (nI (i + 1)) 0 ini 0 0 0 0 ini 0 c s gn o1 o2 o3 o4 mp mn tk sn' sb' (fun _ => 0) pn dc ct cn sc ss sp) → wL_law_296 post L sx (wL_law_203 post L sx (nI D) (nI B) ini (nI mc) kc ks n) (nI D) (nI B) ini (nI mc) (nI i) (nI ns) kc ks (k + 1) (nI p) (nI j) (nI D) (nI B) (nI (i + 1)) 0 ini 0 0 0 0 ini 0 c s gn o1 o2 o3 o4 mp mn tk sn sb (fun _ => 0) pn dc ct cn sc ss sp := by
  intro k
  induction k with
  | zero =>
    intro j p sn sb hj hpb hsi hsn hsb hz h
    exact br_t (nI_le (by omega) (by omega)) (nm_r (nI_1 i) (h p sn sb (Nat.le_refl _) hsn hsb hz))
  | succ k ih =>
    intro j p sn sb hj hpb hsi hsn hsb hz h
    refine br_f (nI_ge (by omega) (by omega)) (nm_r (nI_1 p) (hq_cell hL (by omega) (fun r => hq_task (fun t ht => hq_as (ic := 0) (by omega) (Nat.lt_succ_self i) ht hsi (by omega) (br_f hp_1n0 (nm_r (nI_1 j) ?_))))))
    refine ih (j + 1) (p + 1) _ _ (by omega) (by omega) pk_us (hp_nb_u hsn i ⟨j + 1, by omega, rfl⟩) (hp_nb_u hsb _ ⟨t, ht, rfl⟩) (fun q hq => (pk_un (by omega)).trans (hz q hq)) ?_
    intro p' sn' sb' hp' g1 g2 g3
    exact h p' sn' sb' (by omega) g1 g2 g3
theorem hq_203 {mc : Nat} (hL : L ≤ 260) (hD : D ≤ 4) (hB : B ≤ 128) (hmc : mc ≤ 8) (hpn : hp_nb 16 pn) (hdc : hp_nb 32 dc) (hp : post 1) : ∀ (k i p : Nat) (mp mn : Nat → Int64) (tk sn sb : Nat → Int32), i + k = mc → p + 5 * k < 500 → hp_nb 4 sn → hp_nb 32 sb → (∀ q, i ≤ q → sn q = 0) → wL_law_203 post L sx (nI D) (nI B) ini (nI mc) kc ks (k + 1) (nI p) (nI i) (nI D) (nI B) (nI i) 0 ini 0 0 0 0 ini 0 c s gn o1 o2 o3 o4 mp mn tk sn sb (fun _ => 0) pn dc ct cn sc ss sp := by
  intro k
  induction k with
  | zero =>
    intro i p mp mn tk sn sb hi hpb hsn hsb hz
    have hi' : i = mc := by omega
    rw [hi']
    refine br_t (nI_le (Nat.le_refl _) (by omega)) (nm_r (nI_1 p) (hq_cell hL (by omega) (fun r => ⟨by decide, ?_⟩)))
    obtain ⟨a, ha, ea⟩ := pk_andE r (m := 3) 2 (by decide)
    have e1 : (1 : Int32) + ((r &&& 3) - (r &&& 3) / 3 * 3) = nI (1 + a % 3) := by
      rw [ea, show (3 : Int32) = nI 3 from rfl, pk_rem (by omega) (by decide) (by decide)]
      exact nI_add 1 (a % 3)
    exact nm_r e1 ⟨1 + a % 3 + 1, hq_357 hL hD hB (by omega) (by omega) hsn hsb hpn hdc hp (1 + a % 3) 0 (p + 1) (fun _ => 0) (Nat.zero_add _) (by omega) (hp_nb0 32 (by decide))⟩
  | succ k ih =>
    intro i p mp mn tk sn sb hi hpb hsn hsb hz
    refine br_f (nI_ge (by omega) (by omega)) (nm_r (nI_1 p) (hq_cell hL (by omega) (fun r => ?_)))
    obtain ⟨a, ha, ea⟩ := pk_andE r (m := 3) 2 (by decide)
    have e1 : (16 : Int32) + (r &&& 3) = nI (16 + a) := by rw [ea]; exact nI_add 16 a
    rw [e1]
    refine hq_am (ic := 0) (by omega) (by omega) (by omega) (br_t rfl (nm_r (nI_1 (p + 1)) (hq_cell hL (by omega) (fun r2 => hq_lo (fun v => hq_set4 (ic := 0) (by omega) (Nat.lt_succ_self i) (br_f hp_1n0 (hq_hi (fun v2 => hq_set5 (ic := 0) (by omega) (Nat.lt_succ_self i) (br_f hp_1n0 ?_)))))))))
    obtain ⟨ns, hns, ens⟩ := pk_andE (r.toUInt32 >>> ((2 : Int32).toUInt32 &&& Int32.toUInt32 31)).toInt32 (m := 3) 2 (by decide)
    refine nm_r ens ⟨ns + 1, hq_296 hL (by omega) (by omega) ns 0 (p + 2) sn sb (Nat.zero_add _) (by omega) (hz i (Nat.le_refl i)) hsn hsb (fun q hq => hz q (by omega)) ?_⟩
    intro p' sn' sb' hp' g1 g2 g3
    exact ih (i + 1) p' _ _ _ sn' sb' (by omega) (by omega) g1 g2 g3
theorem hq_43 (hL : L ≤ 260) (hD : D ≤ 4) (hB : B ≤ 128) (hpn : hp_nb 16 pn) (hdc : hp_nb 32 dc) (hp : post 1) : ∀ (k i p : Nat) (o1 o2 o3 o4 : Nat → Int64), i + k = 8 → p + 2 * k < 100 → wL_law_43 post L sx (nI D) (nI B) kc ks (k + 1) (nI p) (nI i) (nI D) (nI B) 0 0 0 0 0 0 0 0 0 c s gn o1 o2 o3 o4 mp mn tk (fun _ => 0) (fun _ => 0) (fun _ => 0) pn dc ct cn sc ss sp := by
  intro k
  induction k with
  | zero =>
    intro i p o1 o2 o3 o4 hi hpb
    have hi' : i = 8 := by omega
    rw [hi']
    refine br_t (nI_le (a := 8) (Nat.le_refl _) (by decide)) (nm_r (nI_1 p) (hq_cell hL (by omega) (fun r => nm_e (hq_set6 (M := 0) (ic := 0) (br_f hp_1n0 (nm_r (nI_1 (p + 1)) (hq_cell hL (by omega) (fun r2 => ?_))))))))
    obtain ⟨a, ha, ea⟩ := pk_andE r2 (m := 7) 3 (by decide)
    have e1 : (1 : Int32) + (r2 &&& 7) = nI (1 + a) := by rw [ea]; exact nI_add 1 a
    exact nm_r e1 ⟨1 + a + 1, hq_203 hL hD hB (by omega) hpn hdc hp (1 + a) 0 (p + 2) mp mn tk (fun _ => 0) (fun _ => 0) (Nat.zero_add _) (by omega) (hp_nb0 4 (by decide)) (hp_nb0 32 (by decide)) (fun _ _ => rfl)⟩
  | succ k ih =>
    intro i p o1 o2 o3 o4 hi hpb
    have hi16 : i < 16 := by omega
    refine br_f (nI_ge (b := 8) (by omega) (by decide)) (nm_r (nI_1 p) (hq_cell hL (by omega) (fun r => nm_r (nI_1 (p + 1)) (hq_cell hL (by omega) (fun r2 => hq_lo (fun v => ?_))))))
    refine hq_set0 (M := 0) (ic := 0) hi16 (br_f hp_1n0 (hq_hi (fun v2 => ?_)))
    refine hq_set1 (M := 0) (ic := 0) hi16 (br_f hp_1n0 ?_)
    refine hq_set2 (M := 0) (ic := 0) hi16 (br_f hp_1n0 ?_)
    refine hq_set3 (M := 0) (ic := 0) hi16 (br_f hp_1n0 (nm_r (nI_1 i) ?_))
    exact ih (i + 1) (p + 2) _ _ _ _ (by omega) (by omega)
end
theorem hq_clamp {post : Int32 → Prop} {a b : Nat} (h1 : 1 ≤ a) (h2 : a ≤ b) (hb : b < 2 ^ 31) (hp : post (nI a)) : wpX_clamp post () (nI a) (nI b) := br_t (nI_le (a := 1) h1 (by omega)) (br_t (nI_le h2 hb) hp)
theorem i_vc (xs : Nat → Int32) (L : Nat) (hL : L ≤ 260) : wpL_law (fun r => r = 1) L xs := by
  refine nm_r (show (0 : Int32) + 1 = nI 1 by decide) ?_
  refine hq_cell (p := 0) hL (by decide) (fun r => ?_)
  obtain ⟨a, ha, ea⟩ := pk_andE r (m := 3) 2 (by decide)
  have e1 : (1 : Int32) + (r &&& 3) = nI (1 + a) := by rw [ea]; exact nI_add 1 a
  refine nm_r e1 (nm_r (nI_1 1) (hq_cell hL (by decide) (fun r2 => ?_)))
  obtain ⟨b, hb, eb⟩ := pk_andE r2 (m := 127) 7 (by decide)
  have e2 : (1 : Int32) + (r2 &&& 127) = nI (1 + b) := by rw [eb]; exact nI_add 1 b
  refine nm_r e2 ⟨17, 568, by decide, by decide, ?_⟩
  refine ⟨by decide, by decide, by decide, by decide, by decide, by decide, by decide, by decide, by decide, by decide, by decide, by decide, by decide, by decide, by decide, by decide, by decide, by decide, by decide, by decide, by decide, by decide, by decide, by decide, by decide, by decide, by decide, by decide, by decide, by decide, by decide, by decide, by decide, by decide, ?_⟩
  refine hq_clamp (b := 16) (by omega) (by omega) (by decide) (hq_clamp (b := 1024) (by omega) (by omega) (by decide) ⟨9, ?_⟩)
  exact hq_43 (post := fun r => r = 1) (D := 1 + a) (B := 1 + b) hL (by omega) (by omega) (hp_nb0 16 (by decide)) (hp_nb0 32 (by decide)) rfl 8 0 2 _ _ _ _ (by decide) (by decide)
end
