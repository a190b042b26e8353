/-! A pilot: the reference's leads (217), pilot (218). -/
/-- what the reference knows of levels, heights and the guest -/
def tq_ref (i : MI) (lev hgt : Int → Int) (sh : Int → Bool) (w pc a g C : Int) : Prop := (0 ≤ g ∧ g < 10) ∧ (∀ x, 0 ≤ x → x < 1440 → i 146 x = lev x) ∧ (∀ c, 0 ≤ c → c < C → i 124 (20 + 2 * c) = hgt c ∧ 0 ≤ hgt c ∧ hgt c ≤ 99) ∧ (i 124 (120 + 14 * g + 6) = w ∧ 0 ≤ w ∧ w ≤ 30) ∧ (∀ c, 0 ≤ c → c < C → decide (i 124 (21 + 2 * c) = 1) = sh c) ∧ (i 124 (120 + 14 * g + 5) = pc ∧ 1 ≤ pc ∧ pc ≤ 20) ∧ (i 124 0 = a ∧ 0 ≤ a ∧ a < C)
theorem tq_ref_c {i i' : MI} {lev hgt : Int → Int} {sh : Int → Bool} {w pc a g C : Int} (h : tq_ref i lev hgt sh w pc a g C) (h4 : i' 124 = i 124) (h6 : i' 146 = i 146) : tq_ref i' lev hgt sh w pc a g C := by
  unfold tq_ref at h ⊢
  rw [h4, h6]
  exact h
section TQE
variable {L t : Nat} {r : MR}
theorem tq_217_s (hr : px_hr r) (d : Nat) (i l : MI) (lev hgt : Int → Int) (sh : Int → Bool) (w pc a g W H C : Int) (A : Int → Int) (hg : tq_gr i W H C) (hR : tq_ref i lev hgt sh w pc a g C) (c dr s p x5 tm : Int) (hc : 0 ≤ c ∧ c < C) (hd : 0 ≤ dr ∧ dr ≤ 3) (hs : s = 0 ∨ s = 1 ∨ s = 2 ∨ s = 3) (htm : 0 ≤ tm) (hx5 : x5 = tq_aim W C A c) (hp : l 150 c = p) (hp0 : 0 ≤ p)
    (hb : ∀ x, 0 ≤ x → x < C → 0 ≤ l 151 x ∧ l 151 x + tq_k W C A dr (fun c => ty_can lev hgt w c tm) p c s x ≤ 4000000000000000000) {v7 v8 v9 : PV} (h7 : px_nl v7) (h8 : px_nl v8) (h9 : px_nl v9) :
    ∃ (l1 : MI) (w7 w8 w9 : PV), px_nl w7 ∧ px_nl w8 ∧ px_nl w9 ∧ px_X (d + 1 + 1) 217 (10, [vR 123, vI g, vI c, vI dr, vI tm, vI x5, vI s, v7, v8, v9], []) (px_sh L, i, l, r, t) = px_X (d + 1 + 1) 217 (10, [vR 123, vI g, vI c, vI dr, vI tm, vI x5, vI (s + 1), w7, w8, w9], []) (px_sh L, i, l1, r, t) ∧ ty_ch [151] l l1 ∧ ∀ x, 0 ≤ x → x < C → l1 151 x = l 151 x + tq_k W C A dr (fun c => ty_can lev hgt w c tm) p c s x := by
  have hg' := hg
  obtain ⟨e0, e1, e2, hC, hW, hH, hdim⟩ := hg'
  have hbb := ty_bes_b (W := W) (H := H) (c := c) (s := s) hW (by rw [← hC]; exact hc)
  rw [← hC] at hbb
  have ws : px_w32 (s + 1) = s + 1 := ty_w (by omega)
  have hpt : tq_pt W C A dr c s = if ty_bes W C c s = x5 then 12 - 3 * dr else dr := by rw [hx5]; rfl
  have hcm : tq_cm W C c s = if ty_bes W C c s = -1 then c else ty_bes W C c s := rfl
  have hk : ∀ x, tq_k W C A dr (fun c => ty_can lev hgt w c tm) p c s x = if ty_can lev hgt w (tq_cm W C c s) tm = true ∧ x = tq_cm W C c s then tq_pt W C A dr c s * p else 0 := fun x => rfl
  have hptb := tq_pt_b (W := W) (C := C) (A := A) (c := c) (s := s) hd
  obtain ⟨pt, hpte⟩ : ∃ pt, pt = tq_pt W C A dr c s := ⟨_, rfl⟩
  obtain ⟨cm, hcme⟩ : ∃ cm, cm = tq_cm W C c s := ⟨_, rfl⟩
  rw [← hpte] at hpt hptb hk
  rw [← hcme] at hcm hk
  obtain ⟨b, hbe⟩ : ∃ b, b = ty_bes W C c s := ⟨_, rfl⟩
  have h210 := tq_210 (L := L) (r := r) (t := t) hr d i l hg c s hc hs
  rw [← hbe] at hpt hcm hbb h210
  have hcmb : 0 ≤ cm ∧ cm < C := by
    rw [hcm]
    split <;> omega
  have e56 : px_X (d + 1 + 1) 217 (10, [vR 123, vI g, vI c, vI dr, vI tm, vI x5, vI s, v7, v8, v9], []) (px_sh L, i, l, r, t) = px_X (d + 1 + 1) 217 (56, [vR 123, vI g, vI c, vI dr, vI tm, vI x5, vI s, vI b, vI pt, v9], [vI cm]) (px_sh L, i, l, r, t) := by
    have e42 : px_X (d + 1 + 1) 217 (10, [vR 123, vI g, vI c, vI dr, vI tm, vI x5, vI s, v7, v8, v9], []) (px_sh L, i, l, r, t) = px_X (d + 1 + 1) 217 (42, [vR 123, vI g, vI c, vI dr, vI tm, vI x5, vI s, vI b, v8, v9], [vI pt]) (px_sh L, i, l, r, t) := by
      rw [b217_10 hr _ _ _ _ _ _ _ _ _ h7 h8 h9, if_neg (by omega), h210, Option.bind_some, px_psh_some, b217_23 hr _ _ _ _ _ _ _ _ _ h7 h8 h9]
      by_cases h : b = x5
      · rw [if_pos h, hpt, if_pos h, ty_w (x := 3 * dr) (by omega), ty_w (x := 12 - 3 * dr) (by omega)]
      · rw [if_neg h, hpt, if_neg h]
    rw [e42, b217_42 hr _ _ _ _ _ _ _ _ _ _ h8 h9]
    by_cases h : b = -1
    · rw [if_pos h, hcm, if_pos h]
    · rw [if_neg h, hcm, if_neg h]
  have h208 := q208 (L := L) (r := r) (t := t) hr d i l lev hgt w g cm tm hR.1 (by omega) htm hR.2.1 (hR.2.2.1 cm hcmb.1 hcmb.2) hR.2.2.2.1
  have h67 := b217_67 (L := L) (t := t) hr (d + 1 + 1) i l g c dr tm x5 s b pt cm (ty_b (ty_can lev hgt w cm tm)) (fun _ => by omega) (fun _ => by omega)
  have e67 : px_X (d + 1 + 1) 217 (10, [vR 123, vI g, vI c, vI dr, vI tm, vI x5, vI s, v7, v8, v9], []) (px_sh L, i, l, r, t) = px_X (d + 1 + 1) 217 (67, [vR 123, vI g, vI c, vI dr, vI tm, vI x5, vI s, vI b, vI pt, vI cm], [vI (ty_b (ty_can lev hgt w cm tm))]) (px_sh L, i, l, r, t) := by
    rw [e56, b217_56 hr _ _ _ _ _ _ _ _ _ _ _ h9, h208, Option.bind_some, px_psh_some]
  rw [ws, hp] at h67
  by_cases h : ty_can lev hgt w cm tm = true
  · rw [if_neg (by rw [h]; decide)] at h67
    have hbx := hb cm hcmb.1 hcmb.2
    rw [hk, if_pos ⟨h, rfl⟩] at hbx
    have hv : 0 ≤ pt * p := Int.mul_nonneg hptb.1 hp0
    rw [Int.mul_comm p pt, ty_w6 (x := pt * p) (by omega), ty_w6 (x := l 151 cm + pt * p) (by omega)] at h67
    refine ⟨_, _, _, _, px_nl_I _, px_nl_I _, px_nl_I _, e67.trans h67, ty_ch_up (by decide), fun x x0 x1 => ?_⟩
    rw [hk]
    by_cases e : x = cm
    · rw [e, ty_up_eq, if_pos ⟨h, rfl⟩]
    · rw [ty_up_j e, if_neg (fun q => e q.2), Int.add_zero]
  · have hf : ty_can lev hgt w cm tm = false := by
      cases hb : ty_can lev hgt w cm tm with
      | false => rfl
      | true => exact absurd hb h
    rw [if_pos (by rw [hf]; rfl)] at h67
    refine ⟨l, _, _, _, px_nl_I _, px_nl_I _, px_nl_I _, e67.trans h67, ty_ch_rf, fun x x0 x1 => ?_⟩
    rw [hk, if_neg (fun q => h q.1), Int.add_zero]
/-- leads -/
theorem tq_217 (hr : px_hr r) (d : Nat) (i l : MI) (lev hgt : Int → Int) (sh : Int → Bool) (w pc a g W H C : Int) (A : Int → Int) (hg : tq_gr i W H C) (hR : tq_ref i lev hgt sh w pc a g C) (hA : ∀ e, 0 ≤ e → e < C → i 149 e = A e) (c dr p tm : Int) (hc : 0 ≤ c ∧ c < C) (hd : 0 ≤ dr ∧ dr ≤ 3) (htm : 0 ≤ tm) (hp : l 150 c = p) (hp0 : 0 ≤ p)
    (hb : ∀ x, 0 ≤ x → x < C → 0 ≤ l 151 x ∧ l 151 x + tq_cn W C A dr (fun c => ty_can lev hgt w c tm) p c x ≤ 4000000000000000000) :
    ∃ l1 : MI, px_C (d + 1 + 1 + 1) 217 [vR 123, vI g, vI c, vI dr, vI tm] (px_sh L, i, l, r, t) = some (none, (px_sh L, i, l1, r, t)) ∧ ty_ch [151] l l1 ∧ ∀ x, 0 ≤ x → x < C → l1 151 x = l 151 x + tq_cn W C A dr (fun c => ty_can lev hgt w c tm) p c x := by
  have hK : ∀ x, tq_cn W C A dr (fun c => ty_can lev hgt w c tm) p c x = tq_k W C A dr (fun c => ty_can lev hgt w c tm) p c 0 x + tq_k W C A dr (fun c => ty_can lev hgt w c tm) p c 3 x + tq_k W C A dr (fun c => ty_can lev hgt w c tm) p c 1 x + tq_k W C A dr (fun c => ty_can lev hgt w c tm) p c 2 x := fun x => rfl
  have hk0 : ∀ s x, 0 ≤ tq_k W C A dr (fun c => ty_can lev hgt w c tm) p c s x := fun s x => tq_k_b hd hp0
  obtain ⟨l1, a7, a8, a9, m7, m8, m9, r1, c1, p1⟩ := tq_217_s (L := L) (r := r) (t := t) hr (d + 1) i l lev hgt sh w pc a g W H C A hg hR c dr 0 p _ tm hc hd (by omega) htm rfl hp hp0 (fun x x0 x1 => by
    have h := hb x x0 x1
    rw [hK] at h
    have h0 := hk0 0 x
    have h1 := hk0 1 x
    have h2 := hk0 2 x
    have h3 := hk0 3 x
    omega) px_nl_J px_nl_J px_nl_J
  obtain ⟨l2, b7, b8, b9, n7, n8, n9, r2, c2, p2⟩ := tq_217_s (L := L) (r := r) (t := t) hr (d + 1) i l1 lev hgt sh w pc a g W H C A hg hR c dr 1 p _ tm hc hd (by omega) htm rfl (by rw [c1 150 (by decide)]; exact hp) hp0 (fun x x0 x1 => by
    have h := hb x x0 x1
    rw [hK] at h
    have h0 := hk0 0 x
    have h1 := hk0 1 x
    have h2 := hk0 2 x
    have h3 := hk0 3 x
    rw [p1 x x0 x1]
    omega) m7 m8 m9
  obtain ⟨l3, d7, d8, d9, o7, o8, o9, r3, c3, p3⟩ := tq_217_s (L := L) (r := r) (t := t) hr (d + 1) i l2 lev hgt sh w pc a g W H C A hg hR c dr 2 p _ tm hc hd (by omega) htm rfl (by rw [c2 150 (by decide), c1 150 (by decide)]; exact hp) hp0 (fun x x0 x1 => by
    have h := hb x x0 x1
    rw [hK] at h
    have h0 := hk0 0 x
    have h1 := hk0 1 x
    have h2 := hk0 2 x
    have h3 := hk0 3 x
    rw [p2 x x0 x1, p1 x x0 x1]
    omega) n7 n8 n9
  obtain ⟨l4, f7, f8, f9, q7, q8, q9, r4, c4, p4⟩ := tq_217_s (L := L) (r := r) (t := t) hr (d + 1) i l3 lev hgt sh w pc a g W H C A hg hR c dr 3 p _ tm hc hd (by omega) htm rfl (by rw [c3 150 (by decide), c2 150 (by decide), c1 150 (by decide)]; exact hp) hp0 (fun x x0 x1 => by
    have h := hb x x0 x1
    rw [hK] at h
    have h0 := hk0 0 x
    have h1 := hk0 1 x
    have h2 := hk0 2 x
    have h3 := hk0 3 x
    rw [p3 x x0 x1, p2 x x0 x1, p1 x x0 x1]
    omega) o7 o8 o9
  refine ⟨l4, ?_, ty_ch_tr (ty_ch_tr (ty_ch_tr c1 c2 (S'' := [151]) rfl rfl) c3 (S'' := [151]) rfl rfl) c4 rfl rfl, fun x x0 x1 => ?_⟩
  · rw [e217, b217_0 hr, tq_216 hr d i l W H C A hg c hc hA, Option.bind_some, px_psh_some, b217_5 hr, r1, show (0 : Int) + 1 = 1 from rfl, r2, show (1 : Int) + 1 = 2 from rfl, r3, show (2 : Int) + 1 = 3 from rfl, r4, show (3 : Int) + 1 = 4 from rfl, b217_10 hr _ _ _ _ _ _ _ _ _ q7 q8 q9, if_pos (by decide)]
  · rw [p4 x x0 x1, p3 x x0 x1, p2 x x0 x1, p1 x x0 x1, hK]
    omega
/-- at first all is in the inn's cell -/
theorem tq_218_0 (hr : px_hr r) (d : Nat) (i : MI) (x1 x2 x3 x4 a C : Int) (hC : i 123 2 = C) (hC36 : C ≤ 36) (ha : i 124 0 = a) : ∀ (n : Nat) (l : MI) (c : Int), 0 ≤ c → c + n = C → (∀ x, 0 ≤ x → x < c → l 150 x = if x = a then 1 else 0) →
    ∃ l1 : MI, px_X (d + 1) 218 (61, [vR 123, vI x1, vI x2, vI x3, vI x4, vI c, vJ, vJ, vJ, vJ], []) (px_sh L, i, l, r, t) = px_X (d + 1) 218 (105, [vR 123, vI x1, vI x2, vI x3, vI x4, vL 1, vJ, vI 1, vJ, vJ], []) (px_sh L, i, l1, r, t) ∧ ty_ch [150] l l1 ∧ ∀ x, 0 ≤ x → x < C → l1 150 x = if x = a then 1 else 0
  | 0, l, c, h0, hn, hf => by
    refine ⟨l, ?_, ty_ch_rf, fun x x0 x1 => hf x x0 (by omega)⟩
    rw [b218_61 hr _ _ _ _ _ _ _ _ (fun h _ => absurd (by omega) h) (fun h _ => absurd (by omega) h), if_pos (by omega)]
  | n + 1, l, c, h0, hn, hf => by
    have wc : px_w32 (c + 1) = c + 1 := ty_w (by omega)
    have hx : px_X (d + 1) 218 (61, [vR 123, vI x1, vI x2, vI x3, vI x4, vI c, vJ, vJ, vJ, vJ], []) (px_sh L, i, l, r, t) = px_X (d + 1) 218 (61, [vR 123, vI x1, vI x2, vI x3, vI x4, vI (c + 1), vJ, vJ, vJ, vJ], []) (px_sh L, i, px_up l 150 c (if c = a then 1 else 0), r, t) := by
      rw [b218_61 hr _ _ _ _ _ _ _ _ (fun _ _ => by omega) (fun _ _ => by omega), if_neg (by omega), ha, wc]
      by_cases e : c = a
      · rw [if_pos e, if_pos e]
      · rw [if_neg e, if_neg e]
    obtain ⟨l1, r1, c1, p1⟩ := tq_218_0 hr d i x1 x2 x3 x4 a C hC hC36 ha n (px_up l 150 c (if c = a then 1 else 0)) (c + 1) (by omega) (by omega) (fun x x0 x1 => by
      by_cases e : x = c
      · rw [e, ty_up_eq]
      · rw [ty_up_j e]
        exact hf x x0 (by omega))
    exact ⟨l1, hx.trans r1, ty_ch_tr (ty_ch_up (S := [150]) (by decide)) c1 rfl rfl, p1⟩
/-- the shores keep theirs -/
theorem tq_218_a (hr : px_hr r) (d : Nat) (i : MI) (sh : Int → Bool) (x1 x2 x3 x4 x5 x7 C : Int) (p : Int → Int) (hC : i 123 2 = C) (hC36 : C ≤ 36) (hs : ∀ c, 0 ≤ c → c < C → decide (i 124 (21 + 2 * c) = 1) = sh c) (hpb : ∀ x, 0 ≤ x → x < C → 0 ≤ p x ∧ p x ≤ 61917364224) : ∀ (n : Nat) (l : MI) (c : Int), 0 ≤ c → c + n = C → (∀ x, 0 ≤ x → x < C → l 150 x = p x) → (∀ x, 0 ≤ x → x < c → l 151 x = if sh x = true then 12 * p x else 0) →
    ∃ l1 : MI, px_X (d + 1) 218 (123, [vR 123, vI x1, vI x2, vI x3, vI x4, vL x5, vJ, vI x7, vI c, vJ], []) (px_sh L, i, l, r, t) = px_X (d + 1) 218 (172, [vR 123, vI x1, vI x2, vI x3, vI x4, vL x5, vJ, vI x7, vI 0, vJ], []) (px_sh L, i, l1, r, t) ∧ ty_ch [151] l l1 ∧ ∀ x, 0 ≤ x → x < C → l1 151 x = if sh x = true then 12 * p x else 0
  | 0, l, c, h0, hn, hp, hf => by
    refine ⟨l, ?_, ty_ch_rf, fun x x0 x1 => hf x x0 (by omega)⟩
    rw [b218_123 hr, if_pos (by omega)]
  | n + 1, l, c, h0, hn, hp, hf => by
    have wc : px_w32 (c + 1) = c + 1 := ty_w (by omega)
    have hpc := hpb c h0 (by omega)
    have hx : px_X (d + 1) 218 (123, [vR 123, vI x1, vI x2, vI x3, vI x4, vL x5, vJ, vI x7, vI c, vJ], []) (px_sh L, i, l, r, t) = px_X (d + 1) 218 (123, [vR 123, vI x1, vI x2, vI x3, vI x4, vL x5, vJ, vI x7, vI (c + 1), vJ], []) (px_sh L, i, px_up l 151 c (if sh c = true then 12 * p c else 0), r, t) := by
      rw [b218_123 hr, if_neg (by omega), q209 hr _ _ _ _ (by omega), Option.bind_some, px_psh_some, b218_144 hr _ _ _ _ _ _ _ _ _ _ _ _ (fun _ => by omega) (fun _ => by omega) (fun _ => by omega), hs c h0 (by omega), wc, hp c h0 (by omega), ty_w6 (by omega), Int.mul_comm (p c) 12]
      cases hb : sh c with
      | true => rw [if_neg (show ¬ ty_b true = 0 by decide), if_pos rfl]
      | false => rw [if_pos (show ty_b false = 0 from rfl), if_neg Bool.false_ne_true]
    obtain ⟨l1, r1, c1, p1⟩ := tq_218_a hr d i sh x1 x2 x3 x4 x5 x7 C p hC hC36 hs hpb n (px_up l 151 c (if sh c = true then 12 * p c else 0)) (c + 1) (by omega) (by omega) (fun x x0 x1 => by rw [ty_up_row (by decide)]; exact hp x x0 x1) (fun x x0 x1 => by
      by_cases e : x = c
      · rw [e, ty_up_eq]
      · rw [ty_up_j e]
        exact hf x x0 (by omega))
    exact ⟨l1, hx.trans r1, ty_ch_tr (ty_ch_up (S := [151]) (by decide)) c1 rfl rfl, p1⟩
/-- the others hand on -/
theorem tq_218_b (hr : px_hr r) (d : Nat) (i : MI) (lev hgt : Int → Int) (sh : Int → Bool) (w pc a g W H C : Int) (A : Int → Int) (hg : tq_gr i W H C) (hR : tq_ref i lev hgt sh w pc a g C) (hA : ∀ e, 0 ≤ e → e < C → i 149 e = A e) (m dr x4 x5 k : Int) (hk : 1 ≤ k ∧ k ≤ 10) (hm : 0 ≤ m ∧ m < 1440) (p : Int → Int) (hd : 0 ≤ dr ∧ dr ≤ 3) (hp0 : ∀ x, 0 ≤ p x)
    (hB : ∀ x, 0 ≤ x → x < C → tq_G (tq_K W C sh A dr (fun c => ty_can lev hgt w c (m + k * pc)) p) C.toNat x ≤ 4000000000000000000) : ∀ (n c : Nat) (l : MI), (c : Int) + n = C → (∀ x, 0 ≤ x → x < C → l 150 x = p x) → (∀ x, 0 ≤ x → x < C → l 151 x = (if sh x = true then 12 * p x else 0) + tq_G (tq_K2 W C sh A dr (fun c => ty_can lev hgt w c (m + k * pc)) p) c x) →
    ∃ l1 : MI, px_X (d + 1 + 1 + 1 + 1) 218 (172, [vR 123, vI g, vI m, vI dr, vI x4, vL x5, vJ, vI k, vI (c : Int), vJ], []) (px_sh L, i, l, r, t) = px_X (d + 1 + 1 + 1 + 1) 218 (230, [vR 123, vI g, vI m, vI dr, vI x4, vL x5, vJ, vI k, vI 0, vJ], []) (px_sh L, i, l1, r, t) ∧ ty_ch [151] l l1 ∧ ∀ x, 0 ≤ x → x < C → l1 151 x = tq_G (tq_K W C sh A dr (fun c => ty_can lev hgt w c (m + k * pc)) p) C.toNat x
  | 0, c, l, hn, hp, hq => by
    have e2 := hg.2.2.1
    refine ⟨l, ?_, ty_ch_rf, fun x x0 x1 => ?_⟩
    · rw [b218_172 hr _ _ _ _ _ _ _ _ _ _ (fun h => absurd (by omega) h), if_pos (by omega)]
    · rw [hq x x0 x1, tq_G_2 x0 C.toNat, show c = C.toNat by omega]
      by_cases h : sh x = true
      · rw [if_pos h, if_pos (show x < ((C.toNat : Nat) : Int) ∧ sh x = true from ⟨by omega, h⟩)]
      · rw [if_neg h, if_neg (fun q => h q.2)]
  | n + 1, c, l, hn, hp, hq => by
    have e2 := hg.2.2.1
    have hdim := hg.2.2.2.2.2.2
    have hpc := hp c (by omega) (by omega)
    have hpcx := hR.2.2.2.2.2.1
    have hkp := ty_kp (k := k) (p := pc) (by omega) hpcx.2
    have e172 := b218_172 (L := L) (t := t) hr (d + 1 + 1 + 1) i l g m dr x4 x5 k (c : Int) (fun _ => by omega)
    rw [if_neg (by omega), hpc, tg_wc (c := c) (by omega)] at e172
    have hG1 : ∀ x, tq_G (tq_K2 W C sh A dr (fun c => ty_can lev hgt w c (m + k * pc)) p) (c + 1) x = tq_G (tq_K2 W C sh A dr (fun c => ty_can lev hgt w c (m + k * pc)) p) c x + tq_K2 W C sh A dr (fun c => ty_can lev hgt w c (m + k * pc)) p c x := fun x => rfl
    have skip : (∀ x, tq_K2 W C sh A dr (fun c => ty_can lev hgt w c (m + k * pc)) p c x = 0) → px_X (d + 1 + 1 + 1 + 1) 218 (172, [vR 123, vI g, vI m, vI dr, vI x4, vL x5, vJ, vI k, vI (c : Int), vJ], []) (px_sh L, i, l, r, t) = px_X (d + 1 + 1 + 1 + 1) 218 (172, [vR 123, vI g, vI m, vI dr, vI x4, vL x5, vJ, vI k, vI ((c + 1 : Nat) : Int), vJ], []) (px_sh L, i, l, r, t) →
        ∃ l1 : MI, px_X (d + 1 + 1 + 1 + 1) 218 (172, [vR 123, vI g, vI m, vI dr, vI x4, vL x5, vJ, vI k, vI (c : Int), vJ], []) (px_sh L, i, l, r, t) = px_X (d + 1 + 1 + 1 + 1) 218 (230, [vR 123, vI g, vI m, vI dr, vI x4, vL x5, vJ, vI k, vI 0, vJ], []) (px_sh L, i, l1, r, t) ∧ ty_ch [151] l l1 ∧ ∀ x, 0 ≤ x → x < C → l1 151 x = tq_G (tq_K W C sh A dr (fun c => ty_can lev hgt w c (m + k * pc)) p) C.toNat x := fun hz hx => by
      obtain ⟨l1, r1, c1, p1⟩ := tq_218_b hr d i lev hgt sh w pc a g W H C A hg hR hA m dr x4 x5 k hk hm p hd hp0 hB n (c + 1) l (by omega) hp (fun x x0 x1 => by rw [hq x x0 x1, hG1, hz, Int.add_zero])
      exact ⟨l1, hx.trans r1, c1, p1⟩
    by_cases hz : p c ≤ 0
    · have hz0 : p c = 0 := by
        have := hp0 c
        omega
      rw [if_pos (by rw [cmp_le]; exact hz)] at e172
      refine skip (fun x => ?_) e172
      unfold tq_K2 tq_cn tq_k
      rw [hz0, Int.mul_zero, Int.mul_zero, Int.mul_zero, Int.mul_zero]
      repeat' split
      all_goals rfl
    · rw [if_neg (by rw [cmp_le]; exact hz), q209 hr _ _ _ _ (by omega), hR.2.2.2.2.1 c (by omega) (by omega), Option.bind_some, px_psh_some] at e172
      have h199 := b218_199 (L := L) (t := t) hr (d + 1 + 1 + 1) i l g m dr x4 x5 k (c : Int) (ty_b (sh c))
      rw [tg_wc (c := c) (by omega)] at h199
      by_cases hsc : sh c = true
      · rw [if_neg (by rw [hsc]; decide)] at h199
        refine skip (fun x => if_pos hsc) (e172.trans h199)
      · have hsf : sh c = false := by
          cases hb : sh c with
          | false => rfl
          | true => exact absurd hb hsc
        have hK2 : ∀ x, tq_K2 W C sh A dr (fun c => ty_can lev hgt w c (m + k * pc)) p c x = tq_cn W C A dr (fun c => ty_can lev hgt w c (m + k * pc)) (p c) c x := fun x => if_neg hsc
        rw [if_pos (by rw [hsf]; rfl), q146 hr _ _ _ _ _ hR.1 (by omega), hpcx.1, Option.bind_some, px_psh_some, b218_216 hr, ty_w (x := k * pc) (by omega), ty_w (x := m + k * pc) (by omega)] at h199
        obtain ⟨la, ra, ca, pa⟩ := tq_217 (L := L) (r := r) (t := t) hr d i l lev hgt sh w pc a g W H C A hg hR hA (c : Int) dr (p c) (m + k * pc) ⟨by omega, by omega⟩ hd (by omega) hpc (hp0 c) (fun x x0 x1 => by
          have h1 := tq_G_b (fun c x => tq_K2_b (W := W) (C := C) (sh := sh) (A := A) (ok := fun c => ty_can lev hgt w c (m + k * pc)) hd hp0 c x) c x
          have h3 := tq_G_le (fun c x => tq_K2_b (W := W) (C := C) (sh := sh) (A := A) (ok := fun c => ty_can lev hgt w c (m + k * pc)) hd hp0 c x) (n := c + 1) (m := C.toNat) (x := x) (by omega)
          have h4 := hB x x0 x1
          rw [tq_G_2 x0 C.toNat] at h4
          rw [hG1, hK2] at h3
          have h5 : (if sh x = true then 12 * p x else 0) = (if x < ((C.toNat : Nat) : Int) ∧ sh x = true then 12 * p x else 0) := by
            by_cases h : sh x = true
            · rw [if_pos h, if_pos (show x < ((C.toNat : Nat) : Int) ∧ sh x = true from ⟨by omega, h⟩)]
            · rw [if_neg h, if_neg (fun q => h q.2)]
          have h6 : 0 ≤ (if x < ((C.toNat : Nat) : Int) ∧ sh x = true then 12 * p x else 0) := by
            have := hp0 x
            split <;> omega
          rw [hq x x0 x1, h5]
          omega)
        rw [ra, Option.bind_some, px_psh_none, b218_221 hr, tg_wc (c := c) (by omega)] at h199
        obtain ⟨l1, r1, c1, p1⟩ := tq_218_b hr d i lev hgt sh w pc a g W H C A hg hR hA m dr x4 x5 k hk hm p hd hp0 hB n (c + 1) la (by omega) (fun x x0 x1 => by rw [ca 150 (by decide)]; exact hp x x0 x1) (fun x x0 x1 => by rw [pa x x0 x1, hq x x0 x1, hG1, hK2, Int.add_assoc])
        exact ⟨l1, (e172.trans h199).trans r1, ty_ch_tr ca c1 rfl rfl, p1⟩
theorem tq_218_c (hr : px_hr r) (d : Nat) (i : MI) (x1 x2 x3 x4 x5 x7 C : Int) (hC : i 123 2 = C) (hC36 : C ≤ 36) : ∀ (n : Nat) (l : MI) (c : Int), 0 ≤ c → c + n = C →
    ∃ (l1 : MI) (y : Int), px_X (d + 1) 218 (230, [vR 123, vI x1, vI x2, vI x3, vI x4, vL x5, vJ, vI x7, vI c, vJ], []) (px_sh L, i, l, r, t) = px_X (d + 1) 218 (105, [vR 123, vI x1, vI x2, vI x3, vI x4, vL x5, vJ, vI (px_w32 (x7 + 1)), vI y, vJ], []) (px_sh L, i, l1, r, t) ∧ ty_ch [150] l l1 ∧ (∀ x, c ≤ x → x < C → l1 150 x = l 151 x) ∧ ∀ x, x < c → l1 150 x = l 150 x
  | 0, l, c, h0, hn => by
    refine ⟨l, c, ?_, ty_ch_rf, fun x x0 x1 => by omega, fun _ _ => rfl⟩
    rw [b218_230 hr _ _ _ _ _ _ _ _ _ _ (fun h => absurd (by omega) h), if_pos (by omega)]
  | n + 1, l, c, h0, hn => by
    have wc : px_w32 (c + 1) = c + 1 := ty_w (by omega)
    obtain ⟨l1, y, r1, c1, p1, p2⟩ := tq_218_c hr d i x1 x2 x3 x4 x5 x7 C hC hC36 n (px_up l 150 c (l 151 c)) (c + 1) (by omega) (by omega)
    refine ⟨l1, y, ?_, ty_ch_tr (ty_ch_up (S := [150]) (by decide)) c1 rfl rfl, fun x x0 x1 => ?_, fun x x0 => ?_⟩
    · rw [b218_230 hr _ _ _ _ _ _ _ _ _ _ (fun _ => by omega), if_neg (by omega), wc, r1]
    · by_cases e : x = c
      · rw [e, p2 c (by omega), ty_up_eq]
      · rw [p1 x (by omega) x1, ty_up_row (by decide)]
    · rw [p2 x (by omega), ty_up_j (by omega)]
theorem tq_218_k (hr : px_hr r) (d : Nat) (i : MI) (lev hgt : Int → Int) (sh : Int → Bool) (w pc a g W H C : Int) (A : Int → Int) (hg : tq_gr i W H C) (hR : tq_ref i lev hgt sh w pc a g C) (hA : ∀ e, 0 ≤ e → e < C → i 149 e = A e) (m dr : Int) (n0 : Nat) (hm : 0 ≤ m ∧ m < 1440) (hd : 0 ≤ dr ∧ dr ≤ 3) (hn10 : n0 ≤ 10) (ha : ∀ c, 0 ≤ c → c < C → sh c = false → tq_aim W C A c ≠ -1) : ∀ (N k : Nat) (l : MI) (v8 : PV), px_nl v8 → k + N = n0 → (∀ x, 0 ≤ x → x < C → l 150 x = tq_P W C sh A dr a m pc (ty_can lev hgt w) k x) →
    ∃ l1 : MI, px_X (d + 1 + 1 + 1 + 1) 218 (105, [vR 123, vI g, vI m, vI dr, vI (n0 : Int), vL ((12 ^ k : Nat) : Int), vJ, vI ((k : Int) + 1), v8, vJ], []) (px_sh L, i, l, r, t) = px_X (d + 1 + 1 + 1 + 1) 218 (271, [vR 123, vI g, vI m, vI dr, vI (n0 : Int), vL ((12 ^ n0 : Nat) : Int), vJ, vL 0, vJ, vI 0], []) (px_sh L, i, l1, r, t) ∧ ty_ch [150, 151] l l1 ∧ ∀ x, 0 ≤ x → x < C → l1 150 x = tq_P W C sh A dr a m pc (ty_can lev hgt w) n0 x
  | 0, k, l, v8, h8, hk, hp => by
    have ek : k = n0 := by omega
    refine ⟨l, ?_, ty_ch_rf, by rw [← ek]; exact hp⟩
    rw [b218_105 hr _ _ _ _ _ _ _ _ _ h8, if_pos (by omega), ek]
  | N + 1, k, l, v8, h8, hk, hp => by
    have hg' := hg
    obtain ⟨e0, e1, e2, hC, hW, hH, hdim⟩ := hg'
    have hC0 : 0 ≤ C := by omega
    obtain ⟨hP1, hP2⟩ := tq_P_b (sh := sh) (A := A) (dr := dr) (a := a) (m := m) (pc := pc) (can := ty_can lev hgt w) hW.1 hC0 hd ha k
    have ekp : ((k + 1 : Nat) : Int) = (k : Int) + 1 := rfl
    obtain ⟨la, ra, ca, pa⟩ := tq_218_a (L := L) (r := r) (t := t) hr (d + 1 + 1 + 1) i sh g m dr (n0 : Int) ((12 ^ (k + 1) : Nat) : Int) ((k : Int) + 1) C (tq_P W C sh A dr a m pc (ty_can lev hgt w) k) e2 hdim.2 hR.2.2.2.2.1 (fun x x0 x1 => tq_P_x hW.1 hC0 hd ha (by omega) ⟨x0, x1⟩) C.toNat l 0 (by omega) (by omega) hp (fun x x0 x1 => by omega)
    obtain ⟨lb, rb, cb, pb⟩ := tq_218_b (L := L) (r := r) (t := t) hr d i lev hgt sh w pc a g W H C A hg hR hA m dr (n0 : Int) ((12 ^ (k + 1) : Nat) : Int) ((k : Int) + 1) (by omega) hm (tq_P W C sh A dr a m pc (ty_can lev hgt w) k) hd hP1 (fun x x0 x1 => by
      have h := (tq_P_x (sh := sh) (A := A) (dr := dr) (a := a) (m := m) (pc := pc) (can := ty_can lev hgt w) hW.1 hC0 hd ha (k := k + 1) (by omega) ⟨x0, x1⟩).2
      have h' : tq_G (tq_K W C sh A dr (fun c => ty_can lev hgt w c (m + ((k : Int) + 1) * pc)) (tq_P W C sh A dr a m pc (ty_can lev hgt w) k)) C.toNat x ≤ 61917364224 := h
      omega) C.toNat 0 la (by omega) (fun x x0 x1 => by rw [ca 150 (by decide)]; exact hp x x0 x1) (fun x x0 x1 => by
      rw [pa x x0 x1]
      show _ = _ + (0 : Int)
      rw [Int.add_zero])
    obtain ⟨lc, y, rc, cc, pcx, -⟩ := tq_218_c (L := L) (r := r) (t := t) hr (d + 1 + 1 + 1) i g m dr (n0 : Int) ((12 ^ (k + 1) : Nat) : Int) ((k : Int) + 1) C e2 hdim.2 C.toNat lb 0 (by omega) (by omega)
    rw [tg_wc2 (c := k) (by omega)] at rc
    obtain ⟨l1, r1, c1, p1⟩ := tq_218_k hr d i lev hgt sh w pc a g W H C A hg hR hA m dr n0 hm hd hn10 ha N (k + 1) lc (vI y) (px_nl_I _) (by omega) (fun x x0 x1 => by
      rw [pcx x x0 x1, pb x x0 x1]
      rfl)
    have rb' : px_X (d + 1 + 1 + 1 + 1) 218 (172, [vR 123, vI g, vI m, vI dr, vI (n0 : Int), vL ((12 ^ (k + 1) : Nat) : Int), vJ, vI ((k : Int) + 1), vI 0, vJ], []) (px_sh L, i, la, r, t) = _ := rb
    refine ⟨l1, ?_, ty_ch_tr (ty_ch_tr (ty_ch_tr ca cb (S'' := [150, 151]) rfl rfl) cc (S'' := [150, 151]) rfl rfl) c1 rfl rfl, p1⟩
    rw [b218_105 hr _ _ _ _ _ _ _ _ _ h8, if_neg (by omega), tq_w12 (k := k) (by omega), ra, rb', rc, r1]
theorem tq_218_s (hr : px_hr r) (d : Nat) (i l : MI) (sh : Int → Bool) (x1 x2 x3 x4 x5 C : Int) (hx5 : x5 ≠ 0) (p : Int → Int) (hC : i 123 2 = C) (hC36 : C ≤ 36) (hs : ∀ c, 0 ≤ c → c < C → decide (i 124 (21 + 2 * c) = 1) = sh c) (hp : ∀ x, 0 ≤ x → x < C → l 150 x = p x) (hB : ∀ c : Nat, (c : Int) ≤ C → 0 ≤ tq_S (tq_g sh p) c ∧ tq_S (tq_g sh p) c ≤ 61917364224) : ∀ (n c : Nat), (c : Int) + n = C →
    px_X (d + 1) 218 (271, [vR 123, vI x1, vI x2, vI x3, vI x4, vL x5, vJ, vL (tq_S (tq_g sh p) c), vJ, vI (c : Int)], []) (px_sh L, i, l, r, t) = some (some (vI (px_w32 (px_w64 (Int.tdiv (px_w64 (1000 * tq_S (tq_g sh p) C.toNat)) x5)))), (px_sh L, i, l, r, t))
  | 0, c, hn => by
    rw [b218_271 hr _ _ _ _ _ _ _ _ _ _ (fun _ => hx5), if_pos (by omega), show c = C.toNat by omega]
  | n + 1, c, hn => by
    have hb1 := hB (c + 1) (by omega)
    have e1 : tq_S (tq_g sh p) (c + 1) = tq_S (tq_g sh p) c + tq_g sh p c := rfl
    have eg : tq_g sh p c = if sh c = true then p c else 0 := rfl
    rw [b218_271 hr _ _ _ _ _ _ _ _ _ _ (fun _ => hx5), if_neg (by omega), q209 hr _ _ _ _ (by omega), hs c (by omega) (by omega), Option.bind_some, px_psh_some, b218_288 hr _ _ _ _ _ _ _ _ _ _ _ _ (fun _ => by omega), tg_wc (c := c) (by omega), ← tq_218_s hr d i l sh x1 x2 x3 x4 x5 C hx5 p hC hC36 hs hp hB n (c + 1) (by omega), hp c (by omega) (by omega)]
    by_cases h : sh c = true
    · rw [if_pos h] at eg
      rw [if_neg (by rw [h]; decide), ty_w6 (by omega), e1, eg]
    · have hf : sh c = false := by
        cases hb : sh c with
        | false => rfl
        | true => exact absurd hb h
      rw [if_neg h] at eg
      rw [if_pos (by rw [hf]; rfl), ty_w6 (by omega), e1, eg]
end TQE
