/-! Runs. -/
theorem px_ar1 {a b e : Nat} (h : e ≤ a) (h2 : a ≤ b) : a - e + (b - a) = b - e := by omega
theorem px_mlN_of {own i m' nest : Nat} {s0 : State} (h : va_Nw (px_mlN (own, i, m', nest)) s0) : va_Nw (.methodLinkNest (px_own own) i (px_y m') "TideGuests") s0 := h
section PX9
variable {p : Program} {l : Launch} {e : Env} {R : Room} {s0 : State} {mi : MethodId} {args : Array Value} {below : List Frame} {meth : Method} {c : Code} {Q : State → Prop}
variable {G : PG} {L : Nat} {xs alw : Nat → Int32} {SF : State → Heap → Prop} {e0 t0 : Nat}
/-- a call, over the callee's contract -/
theorem px_call_ok {d m m' pc l0 nest i kd : Nat} {pl rest as : List PV} {s s2 : PM} {v : Option PV} (hC : px_CX p s0 mi args meth c m G L xs alw SF) (hSF : px_SFok G SF) (hRf : d + 1 + 10 ≤ R.frames) (hRl : (d + 1 + 10) * 100 ≤ R.locals) (he : e0 ≤ s.1.length) (ht : t0 ≤ s.2.2.2.2) (hle : px_le s s2) (hR1 : s2.1.length - e0 ≤ R.cells) (hR2 : s2.2.2.2.2 - t0 ≤ R.slots)
    (hlk : px_mlk[l0]? = some (px_mo m, i, m', nest)) (hkd : px_kd m' = kd) (hdec : kd = 0 ∧ decode (px_by m) pc = .ok (.invokestatic i, 3) ∨ kd = 1 ∧ decode (px_by m) pc = .ok (.invokevirtual i, 3) ∨ kd = 2 ∧ decode (px_by m) pc = .ok (.invokespecial i, 3))
    (hcat : (rest.map px_cat).sum ≤ 8) (hm' : m' < 243) (hna : as.length = px_na m') (hrc : kd ≠ 0 → ∃ (k : Nat) (as' : List PV), as = vR k :: as' ∧ s.1[k]? = some (.inl (px_mo m')) ∧ 3 ≤ k)
    (hM : px_MET l G L xs alw SF d m' as s v s2) (k : px_AT p l e R s0 mi args below meth c Q G L xs alw (px_ml m) e0 t0 (px_psh (pc + 3, pl, rest) v) s2) : px_AT p l e R s0 mi args below meth c Q G L xs alw (px_ml m) e0 t0 (pc, pl, as.reverse ++ rest) s := by
  obtain ⟨hx, hb, hml, hown, hts, hin, hE⟩ := hC
  obtain ⟨⟨w1, w2⟩, ⟨w3, w4, w5⟩, w6, w7, w8, w9, w10, w11, w12⟩ := px_mok_of hm'
  obtain ⟨lk1, lk2⟩ := px_mlk_ok hlk
  intro H locs ls hLR hok hrel hS
  have hok2 : px_okl rest := fun x hx => hok x (List.mem_append_right _ hx)
  have hcat2 : ((rest.map (px_tr G)).map fun v => v.category).sum ≤ 8 := by rw [px_catsum]; exact hcat
  have hroom : (px_rm d (s2.1.length - s.1.length) (s2.2.2.2.2 - s.2.2.2.2)).frames + 1 ≤ R.frames ∧ 8 + (px_ml m' + 11) + (px_rm d (s2.1.length - s.1.length) (s2.2.2.2.2 - s.2.2.2.2)).locals ≤ R.locals := by
    refine ⟨?_, ?_⟩
    · show d + 10 + 1 ≤ _; omega
    · show 8 + (px_ml m' + 11) + (d + 10) * 100 ≤ _; omega
  have hini : (Cond.initialized (px_y m').cls).before args s0 = true := by rw [w6]; exact hts _ w2
  have hGI : GoodIn px_gt (px_wsm m') := px_goodIn (fun w hw => by
    rcases List.mem_cons.mp hw with rfl | hw
    · exact w1
    · exact hw)
  have hfr : s.1.length - e0 + (s2.1.length - s.1.length) ≤ R.cells ∧ s.2.2.2.2 - t0 + (s2.2.2.2.2 - s.2.2.2.2) ≤ R.slots := by
    rw [px_ar1 he hle.1, px_ar1 ht hle.2]
    exact ⟨hR1, hR2⟩
  have hblind : FrameBlind (px_pre G L xs alw SF as s) := fun a U g mk q => by
    obtain ⟨q1, q2, q3⟩ := q
    exact ⟨q1, px_ENV_warm (u := U) (U := U.calling g mk a) hSF.2.1 (State.WarmedH.refl U) q2, q3⟩
  have hpre : ∀ U : State, U.heap = H → s0.WarmedH U.vm → px_pre G L xs alw SF as s (as.map (px_tr G)).toArray U := fun U hU hW => ⟨rfl, px_ENV_call hSF hE hS hU hW, by rw [hU]; exact hrel⟩
  -- what is behind the call
  have behind : ∀ (g : JFrame), g = F0 mi pc ls ((as.reverse ++ rest).map (px_tr G)) → va_Run p l e R s0 mi args below meth c H locs (s.1.length - e0) (s.2.2.2.2 - t0) (s2.1.length - s.1.length) (s2.2.2.2.2 - s.2.2.2.2) g (rest.map (px_tr G)) (px_post G L xs alw v s2 (as.map (px_tr G)).toArray) (px_A G) → W p l e R s0 mi args below meth c H locs (s.1.length - e0) (s.2.2.2.2 - t0) Q g := by
    intro g hg hrun T hT X
    obtain ⟨v9, st₀, t, T', L9, h0, X', hL, e1, e2, ⟨hv, hrel2, hF, hvok⟩, stp⟩ := hrun T hT X
    have hv9 : v9 = v.map (px_tr G) := Outcome.returned.inj hv
    subst hv9
    obtain ⟨hz, hk⟩ := hF
    rw [h0] at hz hk
    rw [← e1] at hz hk hrel2
    have hS2 : va_S (px_A G) s0.heap T'.heap (locs ++ L9) := ⟨Nat.le_trans hS.1 hz, fun q g1 g2 => (hk q (Nat.lt_of_lt_of_le g1 hS.1) g2).trans (hS.2.1 q g1 g2), fun q hq => by
      rcases List.mem_append.mp hq with h | h
      · exact hS.2.2 q h
      · exact hL q h⟩
    have e3 : s.1.length - e0 + (s2.1.length - s.1.length) = s2.1.length - e0 := px_ar1 he hle.1
    have e4 : s.2.2.2.2 - t0 + (s2.2.2.2.2 - s.2.2.2.2) = s2.2.2.2.2 - t0 := px_ar1 ht hle.2
    rw [e3, e4] at X'
    subst hg
    cases v with
    | none =>
      obtain ⟨t2, a1, b1⟩ := k T'.heap _ ls hLR hok2 hrel2 hS2 T' rfl X'
      exact ⟨t2, stp t2 a1, b1⟩
    | some x =>
      obtain ⟨t2, a1, b1⟩ := k T'.heap _ ls hLR (px_okl_cons.mpr ⟨hvok x (by simp), hok2⟩) hrel2 hS2 T' rfl X'
      exact ⟨t2, stp t2 a1, b1⟩
  refine behind _ rfl ?_
  have hlen : ∀ n, px_na m' - (bif px_kd m' == 0 then 0 else 1) = n → (px_y m').cls ≠ "java/lang/invoke/MethodHandle" ∧ (px_y m').cls ≠ "java/lang/invoke/VarHandle" ∧ (parseMethodDescriptor (px_y m').desc).map (fun d => d.parameters.length) = some n := fun n hn => ⟨w7.1, w7.2, by rw [w8, hn]⟩
  rcases hdec with ⟨rfl, hd⟩ | ⟨rfl, hd⟩ | ⟨rfl, hd⟩
  · have hn := hlen (px_na m') (by rw [hkd]; rfl)
    have hst : (F0 mi pc ls ((as.reverse ++ rest).map (px_tr G))).stack = (as.map (px_tr G)).reverse ++ rest.map (px_tr G) := by
      show (as.reverse ++ rest).map (px_tr G) = _
      rw [List.map_append, List.map_reverse]
    rcases Nat.eq_zero_or_pos nest with hz | hz
    · have hl : (Cond.methodLink (px_own (px_mo m)) i (px_y m')).before args s0 = true := hts _ (lk1 hz)
      exact va_runS (n := px_na m') ⟨hx, hb, hml, hown, hts⟩ hM ⟨callB_of (px_na m') hts hGI rfl rfl rfl hini hl hn hroom, hts _ (w3 hkd)⟩ ⟨hblind, hpre⟩ rfl (by rw [List.length_map]; exact hna) hLR.1 hst (lv_room hcat2) hd hfr
    · have hl : va_Nw (.methodLinkNest (px_own (px_mo m)) i (px_y m') "TideGuests") s0 := px_mlN_of (hE.2.1 (px_mo m, i, m', nest) (lk2 (Nat.ne_of_gt hz)) (Nat.ne_of_gt hz))
      exact va_runSN (n := px_na m') ⟨hx, hb, hml, hown, hts⟩ hM ⟨va_cnB (px_na m') hts hGI rfl rfl rfl hl hini hn hroom, hts _ (w3 hkd), trivial⟩ ⟨hblind, hpre⟩ rfl (by rw [List.length_map]; exact hna) hLR.1 hst (lv_room hcat2) hd hfr
  · obtain ⟨k0, as', rfl, hk, hk3⟩ := hrc (by omega)
    have hn := hlen (px_na m' - 1) (by rw [hkd]; rfl)
    have h13 := w12 (by omega)
    have hst : (F0 mi pc ls (((vR k0 :: as').reverse ++ rest).map (px_tr G))).stack = (as'.map (px_tr G)).reverse ++ .ref (px_adr G k0) :: rest.map (px_tr G) := by
      show ((vR k0 :: as').reverse ++ rest).map (px_tr G) = _
      rw [List.reverse_cons, List.append_assoc, List.map_append, List.map_reverse]
      rfl
    have hrec := va_recv hE.1 hrel.1 (px_cls_ok h13) (px_at_obj hk3 hk)
    rcases Nat.eq_zero_or_pos nest with hz | hz
    · have hl : (Cond.methodLink (px_own (px_mo m)) i (px_y m')).before args s0 = true := hts _ (lk1 hz)
      exact va_runV (n := px_na m' - 1) (C := px_own (px_mo m')) ⟨hx, hb, hml, hown, hts⟩ hM ⟨callB_of (px_na m' - 1) hts hGI rfl rfl rfl hini hl hn hroom, hts _ (w4 hkd).1, hts _ (w4 hkd).2⟩ ⟨hblind, hrec, hpre⟩ rfl (by rw [List.length_map, ← hna]; rfl) hLR.1 hst (lv_room hcat2) hd hfr
    · have hl : va_Nw (.methodLinkNest (px_own (px_mo m)) i (px_y m') "TideGuests") s0 := px_mlN_of (hE.2.1 (px_mo m, i, m', nest) (lk2 (Nat.ne_of_gt hz)) (Nat.ne_of_gt hz))
      exact va_runVN (n := px_na m' - 1) (C := px_own (px_mo m')) ⟨hx, hb, hml, hown, hts⟩ hM ⟨va_cnB (px_na m' - 1) hts hGI rfl rfl rfl hl hini hn hroom, hts _ (w4 hkd).1, hts _ (w4 hkd).2⟩ ⟨hblind, hrec, hpre⟩ rfl (by rw [List.length_map, ← hna]; rfl) hLR.1 hst (lv_room hcat2) hd hfr
  · obtain ⟨k0, as', rfl, hk, hk3⟩ := hrc (by omega)
    have hn := hlen (px_na m' - 1) (by rw [hkd]; rfl)
    have hst : (F0 mi pc ls (((vR k0 :: as').reverse ++ rest).map (px_tr G))).stack = (as'.map (px_tr G)).reverse ++ .ref (px_adr G k0) :: rest.map (px_tr G) := by
      show ((vR k0 :: as').reverse ++ rest).map (px_tr G) = _
      rw [List.reverse_cons, List.append_assoc, List.map_append, List.map_reverse]
      rfl
    obtain ⟨w51, w52, w53⟩ := w5 hkd
    have hwsr : px_wsm m' = .code (px_y m') (px_by m') (px_ml m') none :: px_gt := by unfold px_wsm; rw [w53]
    rcases Nat.eq_zero_or_pos nest with hz | hz
    · have hl : (Cond.methodLink (px_own (px_mo m)) i (px_y m')).before args s0 = true := hts _ (lk1 hz)
      exact va_runI (n := px_na m' - 1) ⟨hx, hb, hml, hown, hts⟩ hM ⟨callB_of (px_na m' - 1) hts hGI hwsr rfl rfl hini hl hn hroom, w52, hts _ w51⟩ ⟨hblind, hpre⟩ rfl (by rw [List.length_map, ← hna]; rfl) hLR.1 hst (lv_room hcat2) hd hfr
    · have hl : va_Nw (.methodLinkNest (px_own (px_mo m)) i (px_y m') "TideGuests") s0 := px_mlN_of (hE.2.1 (px_mo m, i, m', nest) (lk2 (Nat.ne_of_gt hz)) (Nat.ne_of_gt hz))
      exact va_runIN (n := px_na m' - 1) ⟨hx, hb, hml, hown, hts⟩ hM ⟨va_cnB (px_na m' - 1) hts hGI hwsr rfl rfl hl hini hn hroom, w52, hts _ w51⟩ ⟨hblind, hpre⟩ rfl (by rw [List.length_map, ← hna]; rfl) hLR.1 hst (lv_room hcat2) hd hfr
end PX9
theorem px_sim {l : Launch} {G : PG} {L : Nat} {xs alw : Nat → Int32} {SF : State → Heap → Prop} (hSF : px_SFok G SF) (hST : px_STR l G L xs alw SF) : ∀ (n d m : Nat) (f : FR) (s : PM) (v : Option PV) (s' : PM), px_run n d m f s = some (v, s') →
    ∀ (p : Program) (e : Env) (R : Room) (s0 : State) (mi : MethodId) (args : Array Value) (below : List Frame) (meth : Method) (c : Code) (Q : State → Prop) (e0 t0 : Nat), px_CX p s0 mi args meth c m G L xs alw SF → d + 10 ≤ R.frames → (d + 10) * 100 ≤ R.locals → e0 ≤ s.1.length → t0 ≤ s.2.2.2.2 → s'.1.length - e0 ≤ R.cells → s'.2.2.2.2 - t0 ≤ R.slots →
      (∀ (pc' : Nat) (pl' : List PV), px_RET m v pc' → px_AT p l e R s0 mi args below meth c Q G L xs alw (px_ml m) e0 t0 (pc', pl', v.toList) s') → px_AT p l e R s0 mi args below meth c Q G L xs alw (px_ml m) e0 t0 f s
  | 0, _, _, _, _, _, _, h => by cases h
  | n + 1, d, m, f, s, v, s', h => by
    intro p e R s0 mi args below meth c Q e0 t0 hC hRf hRl he ht hR1 hR2 hK
    have hmono := px_run_mono _ _ _ _ _ _ _ h
    unfold px_run at h
    obtain ⟨pc, pl, st⟩ := f
    obtain ⟨ee, hcod⟩ : ∃ ee, px_cod m pc = some ee := by
      cases hq : px_cod m pc with
      | none =>
        have : px_stp m (pc, pl, st) s = none := by unfold px_stp; dsimp only; rw [hq]
        rw [this] at h
        cases h
      | some ee => exact ⟨ee, rfl⟩
    obtain ⟨hd, hlk, hlen⟩ := px_cod_ok hcod
    have hstp : px_stp m (pc, pl, st) s = px_ex m ee pc pl st s := by unfold px_stp; dsimp only; rw [hcod]
    split at h
    · cases h
    · rename_i f1 s1 hs
      have hm1 := px_run_mono _ _ _ _ _ _ _ h
      have hm0 := px_stp_mono hs
      have ha : s1.1.length - e0 ≤ R.cells := Nat.le_trans (Nat.sub_le_sub_right hm1.1 _) hR1
      have hb : s1.2.2.2.2 - t0 ≤ R.slots := Nat.le_trans (Nat.sub_le_sub_right hm1.2 _) hR2
      exact px_step_ok hC hSF hST (by omega) (by omega) he ht (Nat.le_trans (Nat.sub_le_sub_right hmono.1 _) hR1) (Nat.le_trans (Nat.sub_le_sub_right hmono.2 _) hR2) ha hb hs
        (px_sim hSF hST n d m f1 s1 v s' h p e R s0 mi args below meth c Q e0 t0 hC hRf hRl (Nat.le_trans he hm0.1) (Nat.le_trans ht hm0.2) hR1 hR2 hK)
    · rename_i r hs
      cases h
      rw [hstp] at hs
      obtain ⟨rfl, rfl, hret⟩ := px_ex_ret hd hlen hs
      exact hK pc pl hret
    · rename_i m' as f1 s1 hs
      rw [hstp] at hs
      obtain ⟨kd, l0, nest, i, hcall, hml, hkd, hdec⟩ := px_ex_call hd hlen hlk hs
      obtain ⟨rfl, rest, rfl, rfl, hcat, hm', hxl, hna, hrc⟩ := px_call_of hcall
      split at h
      · cases h
      · rename_i d'
        split at h
        · cases h
        · rename_i v2 s2 hr
          have hm1 := px_run_mono _ _ _ _ _ _ _ hr
          have hm2 := px_run_mono _ _ _ _ _ _ _ h
          intro H locs ls hLR hok hrel hS
          have hoka : px_okl as := fun x hx => hok x (List.mem_append_left _ (List.mem_reverse.mpr hx))
          have hM : px_MET l G L xs alw SF d' m' as s1 v2 s2 := px_met_of hm' hoka hxl (px_sim hSF hST n d' m' (px_ent m' as) s1 v2 s2 hr)
          exact px_call_ok hC hSF hRf hRl he ht hm1 (Nat.le_trans (Nat.sub_le_sub_right hm2.1 _) hR1) (Nat.le_trans (Nat.sub_le_sub_right hm2.2 _) hR2) hml hkd hdec hcat hm' hna hrc hM
            (px_sim hSF hST n (d' + 1) m (px_psh (pc + 3, pl, rest) v2) s2 v s' h p e R s0 mi args below meth c Q e0 t0 hC hRf hRl (Nat.le_trans he hm1.1) (Nat.le_trans ht hm1.2) hR1 hR2 hK) H locs ls hLR hok hrel hS
