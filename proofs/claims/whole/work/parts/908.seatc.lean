/-! Seating: what it is, and the class's (121 turnTo, 122 seatAll, 124 chosenBy, 125 wishFor). -/
/-- the perch chosen of n from p on, W its wish, u how many sit there; -1: none -/
def ty_pick (W : Int → Int → Int) (u room : Int → Int) : Nat → Int → Int → Int → Int
  | 0, _, best, _ => best
  | n + 1, p, best, most => if room p ≤ u p then ty_pick W u room n (p + 1) best most else if W p (u p) = -2000000 then ty_pick W u room n (p + 1) best most else if best = -1 then ty_pick W u room n (p + 1) p (W p (u p)) else if W p (u p) ≤ most then ty_pick W u room n (p + 1) best most else ty_pick W u room n (p + 1) p (W p (u p))
theorem ty_pick_b {W : Int → Int → Int} {u room : Int → Int} : ∀ (n : Nat) (p best most : Int), 0 ≤ p → (best = -1 ∨ (0 ≤ best ∧ best < p ∧ u best < room best)) → (ty_pick W u room n p best most = -1 ∨ (0 ≤ ty_pick W u room n p best most ∧ ty_pick W u room n p best most < p + n ∧ u (ty_pick W u room n p best most) < room (ty_pick W u room n p best most)))
  | 0, p, best, most, h0, h => by
    show best = -1 ∨ (0 ≤ best ∧ best < p + ((0 : Nat) : Int) ∧ u best < room best)
    rcases h with h | ⟨h1, h2, h3⟩
    · exact Or.inl h
    · exact Or.inr ⟨h1, by omega, h3⟩
  | n + 1, p, best, most, h0, h => by
    have e : p + ((n + 1 : Nat) : Int) = p + 1 + (n : Int) := by omega
    rw [e]
    have hk : best = -1 ∨ (0 ≤ best ∧ best < p + 1 ∧ u best < room best) := by
      rcases h with h | ⟨h1, h2, h3⟩
      · exact Or.inl h
      · exact Or.inr ⟨h1, by omega, h3⟩
    unfold ty_pick
    by_cases c1 : room p ≤ u p
    · rw [if_pos c1]
      exact ty_pick_b n (p + 1) best most (by omega) hk
    · have hp : p = -1 ∨ (0 ≤ p ∧ p < p + 1 ∧ u p < room p) := Or.inr ⟨h0, by omega, by omega⟩
      rw [if_neg c1]
      by_cases c2 : W p (u p) = -2000000
      · rw [if_pos c2]
        exact ty_pick_b n (p + 1) best most (by omega) hk
      · rw [if_neg c2]
        by_cases c3 : best = -1
        · rw [if_pos c3]
          exact ty_pick_b n (p + 1) p _ (by omega) hp
        · rw [if_neg c3]
          by_cases c4 : W p (u p) ≤ most
          · rw [if_pos c4]
            exact ty_pick_b n (p + 1) best most (by omega) hk
          · rw [if_neg c4]
            exact ty_pick_b n (p + 1) p _ (by omega) hp
theorem ty_pick_c {W W' : Int → Int → Int} {u u' room room' : Int → Int} : ∀ (n : Nat) (p best most : Int), (∀ x, p ≤ x → x < p + n → u' x = u x ∧ room' x = room x ∧ ∀ w, W' x w = W x w) → ty_pick W' u' room' n p best most = ty_pick W u room n p best most
  | 0, _, _, _, _ => rfl
  | n + 1, p, best, most, h => by
    have h1 := h p (by omega) (by omega)
    have hi : ∀ b mo, ty_pick W' u' room' n (p + 1) b mo = ty_pick W u room n (p + 1) b mo := fun b mo => ty_pick_c n (p + 1) b mo (fun x x0 x1 => h x (by omega) (by omega))
    unfold ty_pick
    rw [h1.1, h1.2.1, h1.2.2, hi, hi]
/-- the perch that a guest takes -/
def ty_cho (i : MI) (m : Int) (u : Int → Int) (g : Int) : Int := ty_pick (ty_wish i m g) u (fun p => i 124 (101 + 2 * p)) (i 124 3).toNat 0 (-1) 0
/-- guests of a set sit down, one behind the other -/
def ty_sit (C : (Int → Int) → Int → Int) (s : Int) : List Int → (Int → Int) → (Int → Int) → Int → Int
  | [], _, pl => pl
  | g :: gs, u, pl => if ty_bit s g = true then ty_sit C s gs (fun p => if p = C u g then u p + 1 else u p) (fun x => if x = g then C u g else pl x) else ty_sit C s gs u pl
def ty_ordf (f : Int → Int) : Nat → Int → List Int
  | 0, _ => []
  | n + 1, k => f k :: ty_ordf f n (k + 1)
def ty_ord (i : MI) : List Int := ty_ordf (i 17) (i 124 4).toNat 0
/-- where each of a set sits at a minute -/
def ty_place (i : MI) (m s : Int) : Int → Int := ty_sit (ty_cho i m) s (ty_ord i) (fun _ => 0) (fun _ => -1)
theorem ty_sit_c {C C' : (Int → Int) → Int → Int} {s : Int} : ∀ (gs : List Int) (u u' pl : Int → Int), (∀ v v' : Int → Int, (∀ p, 0 ≤ p → v' p = v p) → ∀ g, g ∈ gs → C' v' g = C v g) → (∀ p, 0 ≤ p → u' p = u p) → ty_sit C' s gs u' pl = ty_sit C s gs u pl
  | [], _, _, _, _, _ => rfl
  | g :: gs, u, u', pl, hC, hu => by
    unfold ty_sit
    have e := hC u u' hu g List.mem_cons_self
    have hC' : ∀ v v' : Int → Int, (∀ p, 0 ≤ p → v' p = v p) → ∀ g, g ∈ gs → C' v' g = C v g := fun v v' h g' hg' => hC v v' h g' (List.mem_cons_of_mem _ hg')
    by_cases hb : ty_bit s g = true
    · rw [if_pos hb, if_pos hb, e]
      exact ty_sit_c gs _ _ _ hC' (fun p p0 => by show (if p = C u g then u' p + 1 else u' p) = (if p = C u g then u p + 1 else u p); rw [hu p p0])
    · rw [if_neg hb, if_neg hb]
      exact ty_sit_c gs u u' pl hC' hu
theorem ty_cho_u {i : MI} {m g : Int} {u u' : Int → Int} (h : ∀ p, 0 ≤ p → p < 8 → u' p = u p) (h8 : i 124 3 ≤ 8) : ty_cho i m u' g = ty_cho i m u g := ty_pick_c _ _ _ _ (fun x x0 x1 => ⟨h x (by omega) (by omega), rfl, fun _ => rfl⟩)
theorem ty_cho_ch {S : List Nat} {i i' : MI} {m g : Int} {u : Int → Int} (hL : ty_LW i) (hc : ty_ch S i i') (hS : S.all (fun k => decide (k ≠ 4 ∧ k ≠ 124 ∧ (k < 73 ∨ 103 ≤ k))) = true) : ty_cho i' m u g = ty_cho i m u g := by
  have hm : ∀ k, k ∈ S → k ≠ 4 ∧ k ≠ 124 ∧ (k < 73 ∨ 103 ≤ k) := fun k hk => of_decide_eq_true (List.all_eq_true.mp hS k hk)
  have r124 : i' 124 = i 124 := hc 124 (fun hk => (hm _ hk).2.1 rfl)
  unfold ty_cho
  rw [r124]
  exact ty_pick_c _ _ _ _ (fun x x0 x1 => ⟨rfl, rfl, fun w => ty_wish_ch hL hc hS⟩)
/-- turned to a minute: names, wishes kept -/
def ty_T2 (i : MI) (m : Int) : Prop := ty_Q i ∧ (0 ≤ m ∧ m < 1440) ∧ i 71 0 = m ∧ i 71 8 = ty_lev i m ∧ (∀ x : Int, 0 ≤ x → x < 320 → i 108 x ≤ i 103 7) ∧
  ∀ g p w : Int, 0 ≤ g → g < i 124 4 → 0 ≤ p → p < i 124 3 → 0 ≤ w → w < 4 → i 108 ((g * 8 + p) * 4 + w) = i 103 7 → i 107 ((g * 8 + p) * 4 + w) = ty_wish i m g p w
theorem ty_T2_ch {S : List Nat} {i i' : MI} {m : Int} (h : ty_T2 i m) (hc : ty_ch S i i') (hS : S.all (fun k => decide (58 < k ∧ k ≠ 70 ∧ k ≠ 71 ∧ k ≠ 103 ∧ k ≠ 107 ∧ k ≠ 108 ∧ k ≠ 124 ∧ (k < 73 ∨ 103 ≤ k) ∧ (k < 124 ∨ 132 ≤ k))) = true) : ty_T2 i' m := by
  have hm : ∀ k, k ∈ S → 58 < k ∧ k ≠ 70 ∧ k ≠ 71 ∧ k ≠ 103 ∧ k ≠ 107 ∧ k ≠ 108 ∧ k ≠ 124 ∧ (k < 73 ∨ 103 ≤ k) ∧ (k < 124 ∨ 132 ≤ k) := fun k hk => of_decide_eq_true (List.all_eq_true.mp hS k hk)
  obtain ⟨hQ, t1, t2, t3, t4, t5⟩ := h
  have hL := hQ.1.1
  have r124 : i' 124 = i 124 := hc 124 (fun hk => by have := hm _ hk; omega)
  have r71 : i' 71 = i 71 := hc 71 (fun hk => by have := hm _ hk; omega)
  have r103 : i' 103 = i 103 := hc 103 (fun hk => by have := hm _ hk; omega)
  have r107 : i' 107 = i 107 := hc 107 (fun hk => by have := hm _ hk; omega)
  have r108 : i' 108 = i 108 := hc 108 (fun hk => by have := hm _ hk; omega)
  refine ⟨ty_Q_ch hQ hc (List.all_eq_true.mpr (fun k hk => by have := hm _ hk; exact decide_eq_true (by omega))), t1, by rw [r71]; exact t2, ?_, by rw [r103, r108]; exact t4, fun g p w g0 g1 p0 p1 w0 w1 he => ?_⟩
  · rw [r71, ty_lev_ch hL hc (List.all_eq_true.mpr (fun k hk => by have := hm _ hk; exact decide_eq_true (by omega)))]
    exact t3
  · rw [r124] at g1 p1
    rw [r103, r108] at he
    rw [r107, ty_wish_ch hL hc (List.all_eq_true.mpr (fun k hk => by have := hm _ hk; exact decide_eq_true (by omega)))]
    exact t5 g p w g0 g1 p0 p1 w0 w1 he
section TYU
variable {L t : Nat} {r : MR}
/-- turnTo -/
theorem q121 (hr : px_hr r) (d : Nat) (i l : MI) (m : Int) (hQ : ty_Q i) (hm : 0 ≤ m ∧ m < 1440) (hs : 0 ≤ i 103 7 ∧ i 103 7 < 2000000000) (hx : ∀ x : Int, 0 ≤ x → x < 320 → i 108 x ≤ i 103 7) :
    ∃ i1 : MI, px_C (d + 6) 121 [vR 103, vI m] (px_sh L, i, l, r, t) = some (none, (px_sh L, i1, l, r, t)) ∧ ty_ch [70, 71, 72, 103] i i1 ∧ i1 103 7 = i 103 7 + 1 ∧ ty_T2 i1 m := by
  obtain ⟨i1, r1, c1, f1, v1⟩ := q65 (L := L) (t := t) hr d i l m hQ.1 hm
  have w1 : px_w32 (i 103 7 + 1) = i 103 7 + 1 := ty_w (by omega)
  obtain ⟨j, hj⟩ : ∃ j : MI, j = px_up (px_up (px_up i1 71 0 m) 71 8 (ty_lev i m)) 103 7 (i 103 7 + 1) := ⟨_, rfl⟩
  have cj : ty_ch [71, 103] i1 j := by
    intro k hk
    have h71 : k ≠ 71 := fun e => hk (by rw [e]; decide)
    have h103 : k ≠ 103 := fun e => hk (by rw [e]; decide)
    rw [hj, ty_up_row h103, ty_up_row h71, ty_up_row h71]
  have cc : ty_ch [70, 71, 72, 103] i j := ty_ch_tr c1 cj rfl rfl
  have hG : ty_HG i1 := ty_HG_ch hQ.2 c1 rfl
  have hQj : ty_Q j := ty_Q_ch ⟨v1, hG⟩ cj rfl
  have el : ty_lev j m = ty_lev i m := ty_lev_ch hQ.1.1 cc rfl
  have j103 : j 103 7 = i 103 7 + 1 := by rw [hj, ty_up_eq]
  have j108 : j 108 = i 108 := cc 108 (by decide)
  refine ⟨j, ?_, cc, j103, hQj, hm, ?_, ?_, fun x x0 x1 => ?_, fun g p w g0 g1 p0 p1 w0 w1 he => ?_⟩
  · have r103 : (px_up (px_up i1 71 0 m) 71 8 (ty_lev i m)) 103 7 = i 103 7 := by
      rw [ty_up_k (by decide), ty_up_k (by decide), c1 103 (by decide)]
    rw [e121, b121_0 hr, e66, b66_0 hr, r1, Option.bind_some, px_psh_some, b66_5 hr, q34i hr _ _ _ (px_s71 L) (Nat.le_of_ble_eq_true rfl) _ _ (by omega), Option.bind_some, px_psh_none, b66_15 hr, q34i hr _ _ _ (px_s71 L) (Nat.le_of_ble_eq_true rfl) _ _ (by omega), Option.bind_some, px_psh_none, b66_25 hr, Option.bind_some, px_psh_none, b121_8 hr, r103, w1, ← hj]
  · rw [hj, ty_up_k (by decide), ty_up_j (by omega), ty_up_eq]
  · rw [el, hj, ty_up_k (by decide), ty_up_eq]
  · rw [j103, j108]
    have := hx x x0 x1
    omega
  · rw [j103, j108] at he
    have c4 := cc 124 (by decide)
    have b4 := hQ.2.1.2.2
    have b3 := hQ.2.2.1.2.2
    rw [c4] at g1 p1
    have := hx ((g * 8 + p) * 4 + w) (by omega) (by omega)
    omega
/-- wishFor -/
theorem q125 (hr : px_hr r) (d : Nat) (i l : MI) (m g p w : Int) (hT : ty_T2 i m) (hg : 0 ≤ g ∧ g < i 124 4) (hp : 0 ≤ p ∧ p < i 124 3) (hw : 0 ≤ w ∧ w < 4) :
    ∃ i1 : MI, px_C (d + 3) 125 [vR 103, vI g, vI p, vI w] (px_sh L, i, l, r, t) = some (some (vI (ty_wish i m g p w)), (px_sh L, i1, l, r, t)) ∧ ty_ch [71, 72, 107, 108] i i1 ∧ ty_T2 i1 m := by
  have hT' := hT
  obtain ⟨hQ, t1, t2, t3, t4, t5⟩ := hT'
  have b4 := hQ.2.1.2.2
  have b3 := hQ.2.2.1.2.2
  have w1 : px_w32 (g * 8) = g * 8 := ty_w (by omega)
  have w2 : px_w32 (g * 8 + p) = g * 8 + p := ty_w (by omega)
  have w3 : px_w32 ((g * 8 + p) * 4) = (g * 8 + p) * 4 := ty_w (by omega)
  have w4 : px_w32 ((g * 8 + p) * 4 + w) = (g * 8 + p) * 4 + w := ty_w (by omega)
  have hx : 0 ≤ (g * 8 + p) * 4 + w ∧ (g * 8 + p) * 4 + w < ((320 : Nat) : Int) := by omega
  have head : px_C (d + 3) 125 [vR 103, vI g, vI p, vI w] (px_sh L, i, l, r, t) = px_X (d + 3) 125 (21, [vR 103, vI g, vI p, vI w, vI ((g * 8 + p) * 4 + w)], [vI (i 108 ((g * 8 + p) * 4 + w))]) (px_sh L, i, l, r, t) := by
    rw [e125, b125_0 hr, w1, w2, w3, w4, q33i hr _ _ _ (px_s108 L) (Nat.le_of_ble_eq_true rfl) _ hx, Option.bind_some, px_psh_some]
  by_cases hs : i 108 ((g * 8 + p) * 4 + w) = i 103 7
  · refine ⟨i, ?_, ty_ch_rf, hT⟩
    rw [head, b125_21 hr, if_pos hs, b125_60 hr, q33i hr _ _ _ (px_s107 L) (Nat.le_of_ble_eq_true rfl) _ hx, Option.bind_some, px_psh_some, b125_69 hr, t5 g p w hg.1 hg.2 hp.1 hp.2 hw.1 hw.2 hs]
  · obtain ⟨i1, r1, c1, f0, f8⟩ := q67 (L := L) (t := t) hr d i l m g p w hQ t1 hg hp hw t2 t3
    have hQ1 : ty_Q i1 := ty_Q_ch hQ c1 rfl
    obtain ⟨j, hj⟩ : ∃ j : MI, j = px_up (px_up i1 107 ((g * 8 + p) * 4 + w) (ty_wish i m g p w)) 108 ((g * 8 + p) * 4 + w) (i 103 7) := ⟨_, rfl⟩
    have cj : ty_ch [107, 108] i1 j := by
      intro k hk
      have h7 : k ≠ 107 := fun e => hk (by rw [e]; decide)
      have h8 : k ≠ 108 := fun e => hk (by rw [e]; decide)
      rw [hj, ty_up_row h8, ty_up_row h7]
    have cc : ty_ch [71, 72, 107, 108] i j := ty_ch_tr c1 cj rfl rfl
    have r103 : j 103 = i 103 := cc 103 (by decide)
    have j107 : ∀ x, j 107 x = if x = (g * 8 + p) * 4 + w then ty_wish i m g p w else i 107 x := fun x => by
      rw [hj, ty_up_k (by decide)]
      by_cases hx : x = (g * 8 + p) * 4 + w
      · rw [if_pos hx, hx, ty_up_eq]
      · rw [if_neg hx, ty_up_j hx, c1 107 (by decide)]
    have j108 : ∀ x, j 108 x = if x = (g * 8 + p) * 4 + w then i 103 7 else i 108 x := fun x => by
      rw [hj]
      by_cases hx : x = (g * 8 + p) * 4 + w
      · rw [if_pos hx, hx, ty_up_eq]
      · rw [if_neg hx, ty_up_j hx, ty_up_k (by decide), c1 108 (by decide)]
    refine ⟨j, ?_, cc, ty_Q_ch hQ1 cj rfl, t1, ?_, ?_, fun x x0 x1 => ?_, fun g' p' w' g0 g1 p0 p1 w0 w1 he => ?_⟩
    · have rr : (px_up i1 107 ((g * 8 + p) * 4 + w) (ty_wish i m g p w)) 103 7 = i 103 7 := by
        rw [ty_up_k (by decide), c1 103 (by decide)]
      rw [head, b125_21 hr, if_neg hs, r1, Option.bind_some, px_psh_some, b125_44 hr, q34i hr _ _ _ (px_s107 L) (Nat.le_of_ble_eq_true rfl) _ _ hx, Option.bind_some, px_psh_none, b125_47 hr, rr, q34i hr _ _ _ (px_s108 L) (Nat.le_of_ble_eq_true rfl) _ _ hx, Option.bind_some, px_psh_none, ← hj, b125_60 hr, q33i hr _ _ _ (px_s107 L) (Nat.le_of_ble_eq_true rfl) _ hx, j107, if_pos rfl, Option.bind_some, px_psh_some, b125_69 hr]
    · rw [cj 71 (by decide)]
      exact f0
    · rw [cj 71 (by decide), ty_lev_ch hQ.1.1 cc rfl]
      exact f8
    · rw [j108, r103]
      by_cases hxx : x = (g * 8 + p) * 4 + w
      · rw [if_pos hxx]
        omega
      · rw [if_neg hxx]
        exact t4 x x0 x1
    · have r124 : j 124 = i 124 := cc 124 (by decide)
      rw [r124] at g1 p1
      rw [j108, r103] at he
      rw [j107, ty_wish_ch hQ.1.1 cc rfl]
      by_cases hxx : (g' * 8 + p') * 4 + w' = (g * 8 + p) * 4 + w
      · rw [if_pos hxx]
        have e1 : g' = g := by omega
        have e2 : p' = p := by omega
        have e3 : w' = w := by omega
        rw [e1, e2, e3]
      · rw [if_neg hxx] at he ⊢
        exact t5 g' p' w' g0 g1 p0 p1 w0 w1 he
theorem ty_cho_n (hr : px_hr r) (d : Nat) (l : MI) (m g : Int) (U : Int → Int) : ∀ (n : Nat) (i : MI) (p best most : Int) (v5 v6 : PV), px_nl v5 → px_nl v6 → ty_T2 i m → (0 ≤ g ∧ g < i 124 4) → (∀ x, 0 ≤ x → x < 8 → i 104 x = U x) → (∀ x, 0 ≤ x → x < 8 → 0 ≤ U x) → 0 ≤ p → p + n = i 124 3 →
    ∃ i1 : MI, px_X (d + 4) 124 (7, [vR 103, vI g, vI best, vI most, vI p, v5, v6], []) (px_sh L, i, l, r, t) = some (some (vI (ty_pick (ty_wish i m g) U (fun p => i 124 (101 + 2 * p)) n p best most)), (px_sh L, i1, l, r, t)) ∧ ty_ch [71, 72, 107, 108] i i1 ∧ ty_T2 i1 m
  | 0, i, p, best, most, v5, v6, hn5, hn6, hT, hg, hU, hU0, h0, hp => by
    have b3 := hT.1.2.2.1
    refine ⟨i, ?_, ty_ch_rf, hT⟩
    rw [b124_7 hr _ _ _ _ _ _ _ hn5 hn6, if_pos (by omega)]
    rfl
  | n + 1, i, p, best, most, v5, v6, hn5, hn6, hT, hg, hU, hU0, h0, hp => by
    have b3 := hT.1.2.2.1
    have hroom := (hT.1.2.2.2.1 p h0 (by omega)).2
    have hroom' : i 15 p = i 124 (101 + 2 * p) := hroom.1
    have w1 : px_w32 (p + 1) = p + 1 := ty_w (by omega)
    have hUp := hU p h0 (by omega)
    have hUn := hU0 p h0 (by omega)
    have head : px_X (d + 4) 124 (7, [vR 103, vI g, vI best, vI most, vI p, v5, v6], []) (px_sh L, i, l, r, t) = px_X (d + 4) 124 (44, [vR 103, vI g, vI best, vI most, vI p, vI (U p), v6], [vI (i 124 (101 + 2 * p)), vI (U p)]) (px_sh L, i, l, r, t) := by
      rw [b124_7 hr _ _ _ _ _ _ _ hn5 hn6, if_neg (by omega), q33i hr _ _ _ (px_s104 L) (Nat.le_of_ble_eq_true rfl) _ (by omega), hUp, Option.bind_some, px_psh_some, b124_28 hr _ _ _ _ _ _ _ hn5 hn6, q33i hr _ _ _ (px_s15 L) (Nat.le_of_ble_eq_true rfl) _ (by omega), hroom', Option.bind_some, px_psh_some]
    rw [head, b124_44 hr _ _ _ _ _ _ _ _ hn6]
    unfold ty_pick
    by_cases c1 : i 124 (101 + 2 * p) ≤ U p
    · obtain ⟨i2, r2, c2, T2⟩ := ty_cho_n hr d l m g U n i (p + 1) best most (vI (U p)) v6 (px_nl_I _) hn6 hT hg hU hU0 (by omega) (by omega)
      refine ⟨i2, ?_, c2, T2⟩
      rw [if_neg (by omega), if_pos c1, w1, r2]
    · obtain ⟨i1, r1, ch1, T1⟩ := q125 (L := L) (t := t) hr d i l m g p (U p) hT hg (by omega) (by omega)
      have r124 : i1 124 = i 124 := ch1 124 (by decide)
      have r104 : i1 104 = i 104 := ch1 104 (by decide)
      have eW : ∀ (nn : Nat) (pp bb mm : Int), ty_pick (ty_wish i1 m g) U (fun p => i1 124 (101 + 2 * p)) nn pp bb mm = ty_pick (ty_wish i m g) U (fun p => i 124 (101 + 2 * p)) nn pp bb mm := fun nn pp bb mm => by
        rw [r124]
        exact ty_pick_c _ _ _ _ (fun x _ _ => ⟨rfl, rfl, fun w => ty_wish_ch hT.1.1.1 ch1 rfl⟩)
      have rest : ∀ (bb mm : Int) (v : PV), px_nl v → ∃ i2 : MI, px_X (d + 4) 124 (7, [vR 103, vI g, vI bb, vI mm, vI (p + 1), vI (U p), v], []) (px_sh L, i1, l, r, t) = some (some (vI (ty_pick (ty_wish i m g) U (fun p => i 124 (101 + 2 * p)) n (p + 1) bb mm)), (px_sh L, i2, l, r, t)) ∧ ty_ch [71, 72, 107, 108] i i2 ∧ ty_T2 i2 m := fun bb mm v hv => by
        obtain ⟨i2, r2, c2, T2⟩ := ty_cho_n hr d l m g U n i1 (p + 1) bb mm (vI (U p)) v (px_nl_I _) hv T1 (by rw [r124]; exact hg) (by rw [r104]; exact hU) hU0 (by omega) (by rw [r124]; omega)
        exact ⟨i2, by rw [r2, eW], ty_ch_tr ch1 c2 rfl rfl, T2⟩
      rw [if_pos (by omega), if_neg c1, r1, Option.bind_some, px_psh_some, b124_59 hr _ _ _ _ _ _ _ _ hn6, w1]
      by_cases c2 : ty_wish i m g p (U p) = -2000000
      · rw [if_pos c2, if_pos c2]
        exact rest best most _ (px_nl_I _)
      · rw [if_neg c2, if_neg c2]
        by_cases c3 : best = -1
        · rw [if_pos c3, if_pos c3]
          exact rest _ _ _ (px_nl_I _)
        · rw [if_neg c3, if_neg c3]
          by_cases c4 : ty_wish i m g p (U p) ≤ most
          · rw [if_pos c4, if_pos c4]
            exact rest _ _ _ (px_nl_I _)
          · rw [if_neg c4, if_neg c4]
            exact rest _ _ _ (px_nl_I _)
/-- chosenBy -/
theorem q124 (hr : px_hr r) (d : Nat) (i l : MI) (m g : Int) (U : Int → Int) (hT : ty_T2 i m) (hg : 0 ≤ g ∧ g < i 124 4) (hU : ∀ x, 0 ≤ x → x < 8 → i 104 x = U x) (hU0 : ∀ x, 0 ≤ x → x < 8 → 0 ≤ U x) :
    ∃ i1 : MI, px_C (d + 4) 124 [vR 103, vI g] (px_sh L, i, l, r, t) = some (some (vI (ty_cho i m U g)), (px_sh L, i1, l, r, t)) ∧ ty_ch [71, 72, 107, 108] i i1 ∧ ty_T2 i1 m := by
  have b3 := hT.1.2.2.1
  obtain ⟨i1, r1, c1, T1⟩ := ty_cho_n (L := L) (t := t) hr d l m g U (i 124 3).toNat i 0 (-1) 0 vJ vJ px_nl_J px_nl_J hT hg hU hU0 (by omega) (by omega)
  exact ⟨i1, by rw [e124, b124_0 hr, r1]; rfl, c1, T1⟩
theorem ty_all_n (hr : px_hr r) (d : Nat) (l : MI) (m s : Int) (hs : 0 ≤ s ∧ s < 1024) : ∀ (n : Nat) (i : MI) (k : Int) (v3 v4 : PV) (U PL : Int → Int), px_nl v3 → px_nl v4 → ty_T2 i m → (∀ x, 0 ≤ x → x < 8 → i 104 x = U x) → (∀ x, 0 ≤ x → x < 8 → 0 ≤ U x ∧ U x ≤ k) → (∀ x, 0 ≤ x → x < 10 → i 105 x = PL x) → 0 ≤ k → k + n = i 124 4 →
    ∃ i1 : MI, px_X (d + 5) 122 (18, [vR 103, vI s, vI k, v3, v4], []) (px_sh L, i, l, r, t) = some (none, (px_sh L, i1, l, r, t)) ∧ ty_ch [71, 72, 104, 105, 107, 108] i i1 ∧ ty_T2 i1 m ∧ ∀ x, 0 ≤ x → x < 10 → i1 105 x = ty_sit (ty_cho i m) s (ty_ordf (i 17) n k) U PL x
  | 0, i, k, v3, v4, U, PL, hn3, hn4, hT, hU, hU0, hPL, h0, hk => by
    have b4 := hT.1.2.1
    refine ⟨i, ?_, ty_ch_rf, hT, hPL⟩
    rw [b122_18 hr _ _ _ _ _ hn3 hn4, if_pos (by omega)]
  | n + 1, i, k, v3, v4, U, PL, hn3, hn4, hT, hU, hU0, hPL, h0, hk => by
    have b4 := hT.1.2.1
    have b3 := hT.1.2.2.1
    have ho := hT.1.2.2.2.2.2.1 k h0 (by omega)
    have hg : 0 ≤ i 17 k ∧ i 17 k < i 124 4 := ho
    have w1 : px_w32 (k + 1) = k + 1 := ty_w (by omega)
    have hbit : (0 ≤ i 17 k ∧ i 17 k < 31 ∧ ty_bit s (i 17 k) = true) ↔ ty_bit s (i 17 k) = true := ⟨fun h => h.2.2, fun h => ⟨hg.1, by omega, h⟩⟩
    have head : px_X (d + 5) 122 (18, [vR 103, vI s, vI k, v3, v4], []) (px_sh L, i, l, r, t) = px_X (d + 5) 122 (46, [vR 103, vI s, vI k, vI (i 17 k), v4], [vI (px_bi (0 ≤ i 17 k ∧ i 17 k < 31 ∧ ty_bit s (i 17 k) = true))]) (px_sh L, i, l, r, t) := by
      rw [b122_18 hr _ _ _ _ _ hn3 hn4, if_neg (by omega), q33i hr _ _ _ (px_s17 L) (Nat.le_of_ble_eq_true rfl) _ (by omega), Option.bind_some, px_psh_some, b122_40 hr _ _ _ _ _ hn3 hn4, q32 hr _ _ _ _ _ hs.1 (by omega), Option.bind_some, px_psh_some]
    have eo : ty_ordf (i 17) (n + 1) k = i 17 k :: ty_ordf (i 17) n (k + 1) := rfl
    rw [head, b122_46 hr _ _ _ _ _ _ hn4, eo]
    unfold ty_sit
    by_cases hb : ty_bit s (i 17 k) = true
    · obtain ⟨i1, r1, c1, T1⟩ := q124 (L := L) (t := t) hr d i l m (i 17 k) U hT hg hU (fun x x0 x1 => (hU0 x x0 x1).1)
      obtain ⟨c, hcd⟩ : ∃ c : Int, c = ty_cho i m U (i 17 k) := ⟨_, rfl⟩
      rw [← hcd] at r1
      have hcb : c = -1 ∨ (0 ≤ c ∧ c < i 124 3) := by
        have := ty_pick_b (W := ty_wish i m (i 17 k)) (u := U) (room := fun p => i 124 (101 + 2 * p)) (i 124 3).toNat 0 (-1) 0 (by omega) (Or.inl rfl)
        rw [hcd]
        rcases this with h | ⟨h1, h2, h3⟩
        · exact Or.inl h
        · exact Or.inr ⟨h1, by have : ty_cho i m U (i 17 k) < 0 + ((i 124 3).toNat : Int) := h2; omega⟩
      obtain ⟨j, hj, rj⟩ : ∃ j : MI, ((∀ x, 0 ≤ x → x < 8 → j 104 x = (if x = c then U x + 1 else U x)) ∧ (∀ x, 0 ≤ x → x < 10 → j 105 x = (if x = i 17 k then c else PL x)) ∧ ty_ch [104, 105] i1 j) ∧ px_X (d + 5) 122 (54, [vR 103, vI s, vI k, vI (i 17 k), v4], [vI c]) (px_sh L, i1, l, r, t) = px_X (d + 5) 122 (18, [vR 103, vI s, vI (k + 1), vI (i 17 k), vI c], []) (px_sh L, j, l, r, t) := by
        have r104 : i1 104 = i 104 := c1 104 (by decide)
        have r105 : i1 105 = i 105 := c1 105 (by decide)
        rcases hcb with h1 | h1
        · refine ⟨px_up i1 105 (i 17 k) c, ⟨fun x x0 x1 => ?_, fun x x0 x1 => ?_, ty_ch_up (by decide)⟩, ?_⟩
          · rw [ty_up_row (by decide), r104, if_neg (by omega)]
            exact hU x x0 x1
          · by_cases hx : x = i 17 k
            · rw [if_pos hx, hx, ty_up_eq]
            · rw [if_neg hx, ty_up_j hx, r105]
              exact hPL x x0 x1
          · rw [b122_54 hr _ _ _ _ _ _ hn4, q34i hr _ _ _ (px_s105 L) (Nat.le_of_ble_eq_true rfl) _ _ (by omega), Option.bind_some, px_psh_none, b122_66 hr, q33 hr _ _ _ (px_s104 L) (Nat.le_of_ble_eq_true rfl), Option.bind_some, px_psh_some, b122_81 hr, q34 hr _ _ _ (px_s104 L) (Nat.le_of_ble_eq_true rfl), if_neg (by omega), Option.bind_some, px_psh_none, b122_86 hr, w1]
        · have hv : ty_at ((px_up i1 105 (i 17 k) c) 104) 8 c = U c := by
            rw [ty_at_in (by omega), ty_up_row (by decide), r104]
            exact hU c h1.1 (by omega)
          have hu := hU0 c h1.1 (by omega)
          have w2 : px_w32 (U c + 1) = U c + 1 := ty_w (by omega)
          refine ⟨px_up (px_up i1 105 (i 17 k) c) 104 c (U c + 1), ⟨fun x x0 x1 => ?_, fun x x0 x1 => ?_, ty_ch_tr (ty_ch_up (S := [105]) (by decide)) (ty_ch_up (S := [104]) (by decide)) rfl rfl⟩, ?_⟩
          · by_cases hx : x = c
            · rw [if_pos hx, hx, ty_up_eq]
            · rw [if_neg hx, ty_up_j hx, ty_up_row (by decide), r104]
              exact hU x x0 x1
          · rw [ty_up_row (by decide)]
            by_cases hx : x = i 17 k
            · rw [if_pos hx, hx, ty_up_eq]
            · rw [if_neg hx, ty_up_j hx, r105]
              exact hPL x x0 x1
          · rw [b122_54 hr _ _ _ _ _ _ hn4, q34i hr _ _ _ (px_s105 L) (Nat.le_of_ble_eq_true rfl) _ _ (by omega), Option.bind_some, px_psh_none, b122_66 hr, q33 hr _ _ _ (px_s104 L) (Nat.le_of_ble_eq_true rfl), hv, Option.bind_some, px_psh_some, b122_81 hr, w2, q34i hr _ _ _ (px_s104 L) (Nat.le_of_ble_eq_true rfl) _ _ (by omega), Option.bind_some, px_psh_none, b122_86 hr, w1]
      obtain ⟨hj1, hj2, cj⟩ := hj
      have cc : ty_ch [71, 72, 104, 105, 107, 108] i j := ty_ch_tr c1 cj rfl rfl
      have Tj : ty_T2 j m := ty_T2_ch T1 cj rfl
      have r124 : j 124 = i 124 := cc 124 (by decide)
      have r17 : j 17 = i 17 := cc 17 (by decide)
      obtain ⟨i2, r2, c2, T2, p2⟩ := ty_all_n hr d l m s hs n j (k + 1) (vI (i 17 k)) (vI c) (fun p => if p = c then U p + 1 else U p) (fun x => if x = i 17 k then c else PL x) (px_nl_I _) (px_nl_I _) Tj hj1 (fun x x0 x1 => by
        have := hU0 x x0 x1
        show 0 ≤ (if x = c then U x + 1 else U x) ∧ (if x = c then U x + 1 else U x) ≤ k + 1
        by_cases hx : x = c
        · rw [if_pos hx]; omega
        · rw [if_neg hx]; omega) hj2 (by omega) (by rw [r124]; omega)
      refine ⟨i2, ?_, ty_ch_tr cc c2 rfl rfl, T2, fun x x0 x1 => ?_⟩
      · rw [px_bi_T (hbit.mpr hb), if_neg (by omega), r1, Option.bind_some, px_psh_some, rj, r2]
      · have eC : ty_cho j m = ty_cho i m := funext (fun u => funext (fun g => ty_cho_ch hT.1.1.1 cc rfl))
        rw [if_pos hb, ← hcd, p2 x x0 x1, eC, r17]
    · obtain ⟨i2, r2, c2, T2, p2⟩ := ty_all_n hr d l m s hs n i (k + 1) (vI (i 17 k)) v4 U PL (px_nl_I _) hn4 hT hU (fun x x0 x1 => by have := hU0 x x0 x1; omega) hPL (by omega) (by omega)
      refine ⟨i2, ?_, c2, T2, ?_⟩
      · rw [px_bi_F (fun h => hb h.2.2), if_pos rfl, w1, r2]
      · rw [if_neg hb]
        exact p2
/-- seatAll -/
theorem q122 (hr : px_hr r) (d : Nat) (i l : MI) (m s : Int) (hT : ty_T2 i m) (hs : 0 ≤ s ∧ s < 1024) :
    ∃ i1 : MI, px_C (d + 5) 122 [vR 103, vI s] (px_sh L, i, l, r, t) = some (none, (px_sh L, i1, l, r, t)) ∧ ty_ch [71, 72, 104, 105, 107, 108] i i1 ∧ ty_T2 i1 m ∧ ∀ x, 0 ≤ x → x < 10 → i1 105 x = ty_place i m s x := by
  obtain ⟨j, hj⟩ : ∃ j : MI, j = px_un (px_un i 104 (fun x => if 0 ≤ x ∧ x < ((8 : Nat) : Int) then 0 else i 104 x)) 105 (fun x => if 0 ≤ x ∧ x < ((10 : Nat) : Int) then -1 else (px_un i 104 (fun x => if 0 ≤ x ∧ x < ((8 : Nat) : Int) then 0 else i 104 x)) 105 x) := ⟨_, rfl⟩
  have cj : ty_ch [104, 105] i j := by
    rw [hj]
    exact ty_ch_tr (ty_ch_un (S := [104]) (by decide)) (ty_ch_un (S := [105]) (by decide)) rfl rfl
  have Tj : ty_T2 j m := ty_T2_ch hT cj rfl
  have b4 := Tj.1.2.1
  have r124 : j 124 = i 124 := cj 124 (by decide)
  have r17 : j 17 = i 17 := cj 17 (by decide)
  obtain ⟨i1, r1, c1, T1, p1⟩ := ty_all_n (L := L) (t := t) hr d l m s hs (j 124 4).toNat j 0 vJ vJ (fun _ => 0) (fun _ => -1) px_nl_J px_nl_J Tj (fun x x0 x1 => by
    rw [hj, ty_un_row (by decide), ty_un_eq, if_pos (by omega)]) (fun x x0 x1 => by
    show (0 : Int) ≤ 0 ∧ (0 : Int) ≤ 0
    omega) (fun x x0 x1 => by
    rw [hj, ty_un_eq, if_pos (by omega)]) (by omega) (by omega)
  refine ⟨i1, ?_, ty_ch_tr cj c1 rfl rfl, T1, fun x x0 x1 => ?_⟩
  · rw [e122, b122_0 hr, q241 hr _ _ _ (px_s104 L) (Nat.le_of_ble_eq_true rfl) (by omega), Option.bind_some, px_psh_none, b122_8 hr, q241 hr _ _ _ (px_s105 L) (Nat.le_of_ble_eq_true rfl) (by omega), Option.bind_some, px_psh_none, b122_16 hr, ← hj, r1]
  · have eC : ty_cho j m = ty_cho i m := funext (fun u => funext (fun g => ty_cho_ch hT.1.1.1 cj rfl))
    rw [p1 x x0 x1, eC, r17, r124]
    rfl
/-- placeOf -/
theorem q123 (hr : px_hr r) (d : Nat) (i l : MI) (g : Int) (hg : 0 ≤ g ∧ g < 10) : px_C (d + 1) 123 [vR 103, vI g] (px_sh L, i, l, r, t) = some (some (vI (i 105 g)), (px_sh L, i, l, r, t)) := by
  rw [e123, b123_0 hr, q33i hr _ _ _ (px_s105 L) (Nat.le_of_ble_eq_true rfl) _ (by omega), Option.bind_some, px_psh_some, b123_8 hr]
end TYU
