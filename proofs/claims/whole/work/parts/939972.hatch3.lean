/-! The hatch: findEnds (114), laysEnds (222). -/
def th_H (i : MI) (PL : Int → Int) : Int → Int := fun g => tn_hi i (PL g)
def th_N (i : MI) : Int → Int := fun g => i 124 (121 + 14 * g)
theorem th_N_b {i : MI} (hQ : ty_HG i) {g : Int} (g0 : 0 ≤ g) (g1 : g < i 124 4) : i (21 + g.toNat) 1 = th_N i g ∧ 0 ≤ th_N i g ∧ th_N i g ≤ 30 := by
  have h := hQ.2.2.2.1 g g0 g1 1 (by omega) (by omega)
  have e := h.1
  have e2 := h.2.1
  have e3 := h.2.2.2.1 (by omega)
  rw [show 120 + 14 * g + 1 = 121 + 14 * g by omega] at e e2 e3
  exact ⟨e, e2, e3⟩
section THC
variable {L t : Nat} {r : MR}
/-- findEnds -/
theorem th_114 (hr : px_hr r) (d : Nat) (i l : MI) (S m : Int) (PL : Int → Int) (hQ : ty_Q i) (hS : 0 ≤ S ∧ S < 1024) (hSG : ∀ x, 0 ≤ x → x < 10 → ty_bit S x = true → x < i 124 4) (hm : 0 ≤ m ∧ m < 1440) (hp : ∀ g, 0 ≤ g → g < 10 → i 105 g = PL g ∧ -1 ≤ PL g ∧ PL g < i 124 3) :
    ∃ i1 : MI, px_C (d + 4 + 1) 114 [vR 116, vI S, vI m] (px_sh L, i, l, r, t) = some (none, (px_sh L, i1, l, r, t)) ∧ ty_ch [70, 71, 72, 118] i i1 ∧ ty_Q i1 ∧ ∀ x, 0 ≤ x → x < 10 → i1 118 x = if ty_bit S x = true then th_E (th_H i PL) (th_N i) (ty_lev i) m x else 1440 := by
  have b4 := hQ.2.1
  obtain ⟨j, hj⟩ : ∃ j : MI, j = px_un i 118 (fun x => if 0 ≤ x ∧ x < ((10 : Nat) : Int) then 1440 else i 118 x) := ⟨_, rfl⟩
  have cj : ty_ch [118] i j := by
    rw [hj]
    exact ty_ch_un (by decide)
  have Qj : ty_Q j := ty_Q_ch hQ cj rfl
  have j124 : j 124 = i 124 := cj 124 (by decide)
  obtain ⟨i1, r1, c1, v1, p1⟩ := th_114_t (L := L) (r := r) (t := t) hr d l S m (i 124 4) (i 105) (th_H i PL) (th_N i) (ty_lev i) hS hSG b4.2 hm (fun g g0 g1 => tn_hi_b hQ (hp g g0 (by omega)).2) (fun g g0 g1 => (th_N_b hQ.2 g0 g1).2) (1440 - m).toNat j S m vJ vJ vJ vJ px_nl_J px_nl_J px_nl_J px_nl_J hS Qj.1 (fun u _ _ => ty_lev_ch hQ.1.1 cj rfl) (cj 105 (by decide)) (by rw [cj 4 (by decide)]; exact b4.1) (fun g g0 g1 => by
    rw [cj 14 (by decide), (hp g g0 (by omega)).1]
    exact tn_hi_at hQ (hp g g0 (by omega)).2) (fun g g0 g1 => by
    rw [cj (21 + g.toNat) (by simp only [List.mem_singleton]; omega)]
    exact (th_N_b hQ.2 g0 g1).1) (Int.le_refl m) (by omega) (fun x x0 x1 => ⟨fun h => ⟨h, fun u u0 u1 => by omega⟩, fun h => h.1⟩) (fun x x0 x1 => by
    rw [hj, ty_un_eq, if_pos (by omega), if_neg (fun h => h.2 h.1)])
  have cc : ty_ch [70, 71, 72, 118] i i1 := ty_ch_tr cj c1 rfl rfl
  refine ⟨i1, ?_, cc, ⟨v1, ty_HG_ch hQ.2 cc rfl⟩, p1⟩
  rw [e114, b114_0 hr, q241 hr _ _ _ (px_s118 L) (Nat.le_of_ble_eq_true rfl) (by omega), Option.bind_some, px_psh_none, ← hj, b114_10 hr, r1]
/-- one guest's end -/
theorem th_222_t (hr : px_hr r) (d : Nat) (l : MI) (m g : Int) (lev : Int → Int) (p h nz : Int) (hm : 0 ≤ m ∧ m < 1440) (hg : 0 ≤ g ∧ g < 10) (hp : -1 ≤ p ∧ p < 8) (hh : 0 ≤ h ∧ h ≤ 99) (hz : 0 ≤ nz ∧ nz ≤ 30) : ∀ (n : Nat) (i : MI), i 142 g = p → (if p = -1 then 0 else i 124 (100 + 2 * p)) = h → i 124 (121 + 14 * g) = nz → (∀ u, 0 ≤ u → u < 1440 → i 146 u = lev u) → m + n ≤ 1440 → i 155 g = th_fs (fun u => decide (h + nz < lev u)) (1440 - m - n).toNat (m + n) →
    ∃ i1 : MI, px_X (d + 1) 222 (34, [vR 123, vI m, vI g, vI (m + n - 1)], []) (px_sh L, i, l, r, t) = px_X (d + 1) 222 (11, [vR 123, vI m, vI (g + 1), vI (m - 1)], []) (px_sh L, i1, l, r, t) ∧ ty_ch [155] i i1 ∧ i1 155 g = th_fs (fun u => decide (h + nz < lev u)) (1440 - m).toNat m ∧ ∀ x, x ≠ g → i1 155 x = i 155 x
  | 0, i, h1, h2, h3, h4, hn, h5 => by
    refine ⟨i, ?_, ty_ch_rf, ?_, fun _ _ => rfl⟩
    · rw [b222_34 hr _ _ _ _ _ _ (fun h => absurd (by omega) h) (fun h => absurd (by omega) h) (fun h => absurd (by omega) h), if_pos (by omega), ty_w (x := g + 1) (by omega), show m + ((0 : Nat) : Int) - 1 = m - 1 by omega]
    · rw [h5, show (1440 - m - ((0 : Nat) : Int)).toNat = (1440 - m).toNat by omega, show m + ((0 : Nat) : Int) = m by omega]
  | n + 1, i, h1, h2, h3, h4, hn, h5 => by
    obtain ⟨u, hu⟩ : ∃ u : Int, u = m + n := ⟨_, rfl⟩
    have e1 : m + ((n + 1 : Nat) : Int) - 1 = u := by omega
    have e2 : m + ((n + 1 : Nat) : Int) = u + 1 := by omega
    have hwu : px_w32 (u + (-1)) = m + n - 1 := by rw [ty_w (by omega)]; omega
    have hwp : px_w32 (h + nz) = h + nz := ty_w (by omega)
    rw [e2] at h5
    have hlu := h4 u (by omega) (by omega)
    have h34 := b222_34 (L := L) (t := t) hr d i l m g u (fun _ => hg) (fun _ _ => by omega) (fun _ _ => hg)
    rw [if_neg (by omega), h1, if_neg (by omega), q194 hr _ _ _ _ hp, h2, hlu, Option.bind_some, px_psh_some, b222_71 hr, q146 hr _ _ _ _ _ hg (by omega), show 120 + 14 * g + 1 = 121 + 14 * g by omega, h3, Option.bind_some, px_psh_some, b222_77 hr _ _ _ _ _ _ _ _ _ _ (fun _ => hg) (fun _ => hg) (fun _ => hg), hwp, hwu] at h34
    have efs : th_fs (fun u => decide (h + nz < lev u)) (1440 - m - n).toNat (m + n) = if h + nz < lev u then u else th_fs (fun u => decide (h + nz < lev u)) (1440 - m - ((n + 1 : Nat) : Int)).toNat (u + 1) := by
      rw [show (1440 - m - (n : Int)).toNat = (1440 - m - ((n + 1 : Nat) : Int)).toNat + 1 by omega, ← hu]
      show (if decide (h + nz < lev u) = true then u else _) = _
      by_cases c : h + nz < lev u
      · rw [if_pos (decide_eq_true c), if_pos c]
      · rw [if_neg (fun h => c (of_decide_eq_true h)), if_neg c]
    have key : ∀ j : MI, ty_ch [155] i j → j 155 g = (if h + nz < lev u then u else i 155 g) → (∀ x, x ≠ g → j 155 x = i 155 x) → px_X (d + 1) 222 (34, [vR 123, vI m, vI g, vI u], []) (px_sh L, i, l, r, t) = px_X (d + 1) 222 (34, [vR 123, vI m, vI g, vI (m + n - 1)], []) (px_sh L, j, l, r, t) →
        ∃ i1 : MI, px_X (d + 1) 222 (34, [vR 123, vI m, vI g, vI (m + ((n + 1 : Nat) : Int) - 1)], []) (px_sh L, i, l, r, t) = px_X (d + 1) 222 (11, [vR 123, vI m, vI (g + 1), vI (m - 1)], []) (px_sh L, i1, l, r, t) ∧ ty_ch [155] i i1 ∧ i1 155 g = th_fs (fun u => decide (h + nz < lev u)) (1440 - m).toNat m ∧ ∀ x, x ≠ g → i1 155 x = i 155 x := fun j cj v1 v2 hx => by
      obtain ⟨i1, r1, c1, p1, p2⟩ := th_222_t hr d l m g lev p h nz hm hg hp hh hz n j (by rw [cj 142 (by decide)]; exact h1) (by rw [cj 124 (by decide)]; exact h2) (by rw [cj 124 (by decide)]; exact h3) (by rw [cj 146 (by decide)]; exact h4) (by omega) (by
        rw [v1, efs, h5])
      refine ⟨i1, by rw [e1, hx, r1], ty_ch_tr cj c1 rfl rfl, p1, fun x hx => by rw [p2 x hx, v2 x hx]⟩
    by_cases c : h + nz < lev u
    · rw [if_neg (by omega)] at h34
      exact key (px_up i 155 g u) (ty_ch_up (by decide)) (by rw [ty_up_eq, if_pos c]) (fun x hx => ty_up_j hx) h34
    · rw [if_pos (by omega)] at h34
      exact key (px_up i 155 g (i 155 g)) (ty_ch_up (by decide)) (by rw [ty_up_eq, if_neg c]) (fun x hx => ty_up_j hx) h34
theorem th_222_n (hr : px_hr r) (d : Nat) (l : MI) (m S G : Int) (PL hf nose lev : Int → Int) (hm : 0 ≤ m ∧ m < 1440) (hG : 0 ≤ G ∧ G ≤ 10) (hP : ∀ g, 0 ≤ g → g < G → ty_bit S g = true → (-1 ≤ PL g ∧ PL g < 8) ∧ 0 ≤ hf (PL g) ∧ hf (PL g) ≤ 99) (hN : ∀ g, 0 ≤ g → g < G → 0 ≤ nose g ∧ nose g ≤ 30) : ∀ (n : Nat) (i : MI) (g : Int) (v3 : PV), px_nl v3 → i 124 4 = G → (∀ x, 0 ≤ x → x < 10 → i 142 x = if x < G ∧ ty_bit S x = true then PL x else -2) → (∀ p : Int, -1 ≤ p → p < 8 → (if p = -1 then 0 else i 124 (100 + 2 * p)) = hf p) → (∀ g, 0 ≤ g → g < G → i 124 (121 + 14 * g) = nose g) → (∀ u, 0 ≤ u → u < 1440 → i 146 u = lev u) → 0 ≤ g → g + n = G →
    ∃ i1 : MI, px_X (d + 1) 222 (11, [vR 123, vI m, vI g, v3], []) (px_sh L, i, l, r, t) = some (none, (px_sh L, i1, l, r, t)) ∧ ty_ch [155] i i1 ∧ (∀ x, g ≤ x → x < G → i1 155 x = if ty_bit S x = true then th_E (fun g => hf (PL g)) nose lev m x else 1440) ∧ ∀ x, x < g → i1 155 x = i 155 x
  | 0, i, g, v3, hn3, h4, h142, hh, hno, hlv, hg, hn => by
    exact ⟨i, by rw [b222_11 hr _ _ _ _ _ hn3 (fun h => absurd (by omega) h), if_pos (by omega)], ty_ch_rf, fun x x0 x1 => by omega, fun _ _ => rfl⟩
  | n + 1, i, g, v3, hn3, h4, h142, hh, hno, hlv, hg, hn => by
    obtain ⟨j, hj⟩ : ∃ j : MI, j = px_up i 155 g 1440 := ⟨_, rfl⟩
    have cj : ty_ch [155] i j := by
      rw [hj]
      exact ty_ch_up (by decide)
    have h11 : px_X (d + 1) 222 (11, [vR 123, vI m, vI g, v3], []) (px_sh L, i, l, r, t) = px_X (d + 1) 222 (34, [vR 123, vI m, vI g, vI 1439], []) (px_sh L, j, l, r, t) := by
      rw [b222_11 hr _ _ _ _ _ hn3 (fun _ => by omega), if_neg (by omega), ← hj]
    have key : ∀ (i2 : MI) (v : Int), ty_ch [155] j i2 → i2 155 g = (if ty_bit S g = true then th_E (fun g => hf (PL g)) nose lev m g else 1440) → (∀ x, x ≠ g → i2 155 x = j 155 x) → px_X (d + 1) 222 (34, [vR 123, vI m, vI g, vI 1439], []) (px_sh L, j, l, r, t) = px_X (d + 1) 222 (11, [vR 123, vI m, vI (g + 1), vI v], []) (px_sh L, i2, l, r, t) →
        ∃ i1 : MI, px_X (d + 1) 222 (11, [vR 123, vI m, vI g, v3], []) (px_sh L, i, l, r, t) = some (none, (px_sh L, i1, l, r, t)) ∧ ty_ch [155] i i1 ∧ (∀ x, g ≤ x → x < G → i1 155 x = if ty_bit S x = true then th_E (fun g => hf (PL g)) nose lev m x else 1440) ∧ ∀ x, x < g → i1 155 x = i 155 x := fun i2 v c2 v1 v2 hx => by
      have cc : ty_ch [155] i i2 := ty_ch_tr cj c2 rfl rfl
      obtain ⟨i1, r1, c1, p1, p2⟩ := th_222_n hr d l m S G PL hf nose lev hm hG hP hN n i2 (g + 1) (vI v) (px_nl_I _) (by rw [cc 124 (by decide)]; exact h4) (by rw [cc 142 (by decide)]; exact h142) (by rw [cc 124 (by decide)]; exact hh) (by rw [cc 124 (by decide)]; exact hno) (by rw [cc 146 (by decide)]; exact hlv) (by omega) (by omega)
      refine ⟨i1, by rw [h11, hx, r1], ty_ch_tr cc c1 rfl rfl, fun x x0 x1 => ?_, fun x hx => ?_⟩
      · by_cases ex : x = g
        · rw [ex, p2 g (by omega), v1]
        · exact p1 x (by omega) x1
      · rw [p2 x (by omega), v2 x (by omega), hj, ty_up_j (by omega)]
    have hs := h142 g hg (by omega)
    by_cases cs : ty_bit S g = true
    · rw [if_pos ⟨by omega, cs⟩] at hs
      have hPg := hP g hg (by omega) cs
      obtain ⟨i2, r2, c2, p1, p2⟩ := th_222_t (L := L) (r := r) (t := t) hr d l m g lev (PL g) (hf (PL g)) (nose g) hm ⟨hg, by omega⟩ hPg.1 hPg.2 (hN g hg (by omega)) (1440 - m).toNat j (by rw [cj 142 (by decide)]; exact hs) (by rw [cj 124 (by decide)]; exact hh _ hPg.1.1 hPg.1.2) (by rw [cj 124 (by decide)]; exact hno g hg (by omega)) (by rw [cj 146 (by decide)]; exact hlv) (by omega) (by
        rw [hj, ty_up_eq, show (1440 - m - ((1440 - m).toNat : Int)).toNat = 0 by omega]
        show (1440 : Int) = m + ((1440 - m).toNat : Int)
        omega)
      rw [show m + ((1440 - m).toNat : Int) - 1 = 1439 by omega] at r2
      exact key i2 (m - 1) c2 (by rw [p1, if_pos cs]; rfl) p2 r2
    · rw [if_neg (fun h => cs h.2)] at hs
      refine key j 1439 ty_ch_rf (by rw [if_neg cs, hj, ty_up_eq]) (fun _ _ => rfl) ?_
      rw [b222_34 hr _ _ _ _ _ _ (fun _ => by omega) (fun _ h => absurd (by rw [cj 142 (by decide)]; exact hs) h) (fun _ h => absurd (by rw [cj 142 (by decide)]; exact hs) h), if_neg (by omega), cj 142 (by decide), if_pos hs, ty_w (x := g + 1) (by omega)]
end THC
