/-! The tables are checked: each instruction against the class files' bytes, each link against the Statement's words. -/
def px_lk (m pc : Nat) (e : PE) : Bool := match e.1, e.2.2.1 with
  | .getfield i, [l, ci, ty, fin] => (match px_flk[l]? with | some (o, i', c', j) => o == px_mo m && i' == i && c' == ci && Int.ofNat j == e.2.2.2 && ty == px_ty ci j && fin == px_fin ci j | none => false)
  | .putfield i, [l, ci, ty, fin] => (match px_flk[l]? with | some (o, i', c', j) => o == px_mo m && i' == i && c' == ci && Int.ofNat j == e.2.2.2 && ty == px_ty ci j && fin == px_fin ci j | none => false)
  | .goto f, [t] => (pc : Int) + f == t
  | .ifCond _ f, [t] => (pc : Int) + f == t
  | .if_icmp _ f, [t] => (pc : Int) + f == t
  | .ifnull f, [t] => (pc : Int) + f == t
  | .ifnonnull f, [t] => (pc : Int) + f == t
  | .tableswitch d lo hi fs, dt :: ts => (pc : Int) + d == dt && fs.toList.map (fun f => (pc : Int) + f) == ts.map Int.ofNat && lo == e.2.2.2 && hi == lo + (ts.length : Int) - 1
  | .lookupswitch d ps, dt :: ts => (pc : Int) + d == dt && ps.toList.map (fun f => (pc : Int) + f.2) == ts.map Int.ofNat && (ps.toList.zip (ps.toList.drop 1)).all (fun (a, next) => a.1 < next.1)
  | .invokestatic i, [0, l, m'] => (match px_mlk[l]? with | some (o, i', m2, _) => o == px_mo m && i' == i && m2 == m' && px_kd m' == 0 | none => false)
  | .invokevirtual i, [0, l, m'] => (match px_mlk[l]? with | some (o, i', m2, _) => o == px_mo m && i' == i && m2 == m' && px_kd m' == 1 | none => false)
  | .invokespecial i, [0, l, m'] => (match px_mlk[l]? with | some (o, i', m2, _) => o == px_mo m && i' == i && m2 == m' && px_kd m' == 2 | none => false)
  | .invokespecial i, [1, l] => (match px_ilk[l]? with | some (o, i', k) => o == px_mo m && i' == i && k == 1 | none => false)
  | .invokestatic i, [2, l] => (match px_ilk[l]? with | some (o, i', k) => o == px_mo m && i' == i && k == 2 | none => false)
  | .invokevirtual i, [3, l] => (match px_ilk[l]? with | some (o, i', k) => o == px_mo m && i' == i && k == 3 | none => false)
  | .invokevirtual i, [4, l] => (match px_ilk[l]? with | some (o, i', k) => o == px_mo m && i' == i && k == 4 | none => false)
  | .invokestatic i, [5, l] => (match px_ilk[l]? with | some (o, i', k) => o == px_mo m && i' == i && k == 5 | none => false)
  | .invokestatic i, [6, l] => (match px_ilk[l]? with | some (o, i', k) => o == px_mo m && i' == i && k == 6 | none => false)
  | .invokestatic i, [7, l] => (match px_ilk[l]? with | some (o, i', k) => o == px_mo m && i' == i && k == 7 | none => false)
  | .invokestatic i, [8, l] => (match px_ilk[l]? with | some (o, i', k) => o == px_mo m && i' == i && k == 8 | none => false)
  | .invokestatic i, [9, l] => (match px_ilk[l]? with | some (o, i', k) => o == px_mo m && i' == i && k == 9 | none => false)
  | .new i, [l, ci] => (match px_clk[l]? with | some (o, i', c') => o == px_mo m && i' == i && c' == ci | none => false)
  | .anewarray i, [l, ci] => (match px_clk[l]? with | some (o, i', c') => o == px_mo m && i' == i && c' == ci | none => false)
  | .ldc i, [0, l] => (match px_klk[l]? with | some (o, i', k, v) => o == px_mo m && i' == i && k == 0 && v == e.2.2.2 | none => false)
  | .ldc_w i, [0, l] => (match px_klk[l]? with | some (o, i', k, v) => o == px_mo m && i' == i && k == 0 && v == e.2.2.2 | none => false)
  | .ldc2_w i, [0, l] => (match px_klk[l]? with | some (o, i', k, v) => o == px_mo m && i' == i && k == 1 && v == e.2.2.2 | none => false)
  | _, _ => true
def px_chk (m : Nat) (q : Nat × PE) : Bool := decide (decode (px_by m) q.1 = .ok (q.2.1, q.2.2.1)) && px_lk m q.1 q.2
theorem px_ck_0 : (List.range' 0 12).all (fun c => (px_ch c).all (px_chk (px_cm c))) = true := by decide +kernel
theorem px_ck_12 : (List.range' 12 12).all (fun c => (px_ch c).all (px_chk (px_cm c))) = true := by decide +kernel
theorem px_ck_24 : (List.range' 24 12).all (fun c => (px_ch c).all (px_chk (px_cm c))) = true := by decide +kernel
theorem px_ck_36 : (List.range' 36 12).all (fun c => (px_ch c).all (px_chk (px_cm c))) = true := by decide +kernel
theorem px_ck_48 : (List.range' 48 12).all (fun c => (px_ch c).all (px_chk (px_cm c))) = true := by decide +kernel
theorem px_ck_60 : (List.range' 60 12).all (fun c => (px_ch c).all (px_chk (px_cm c))) = true := by decide +kernel
theorem px_ck_72 : (List.range' 72 12).all (fun c => (px_ch c).all (px_chk (px_cm c))) = true := by decide +kernel
theorem px_ck_84 : (List.range' 84 12).all (fun c => (px_ch c).all (px_chk (px_cm c))) = true := by decide +kernel
theorem px_ck_96 : (List.range' 96 12).all (fun c => (px_ch c).all (px_chk (px_cm c))) = true := by decide +kernel
theorem px_ck_108 : (List.range' 108 12).all (fun c => (px_ch c).all (px_chk (px_cm c))) = true := by decide +kernel
theorem px_ck_120 : (List.range' 120 12).all (fun c => (px_ch c).all (px_chk (px_cm c))) = true := by decide +kernel
theorem px_ck_132 : (List.range' 132 12).all (fun c => (px_ch c).all (px_chk (px_cm c))) = true := by decide +kernel
theorem px_ck_144 : (List.range' 144 12).all (fun c => (px_ch c).all (px_chk (px_cm c))) = true := by decide +kernel
theorem px_ck_156 : (List.range' 156 12).all (fun c => (px_ch c).all (px_chk (px_cm c))) = true := by decide +kernel
theorem px_ck_168 : (List.range' 168 12).all (fun c => (px_ch c).all (px_chk (px_cm c))) = true := by decide +kernel
theorem px_ck_180 : (List.range' 180 12).all (fun c => (px_ch c).all (px_chk (px_cm c))) = true := by decide +kernel
theorem px_ck_192 : (List.range' 192 12).all (fun c => (px_ch c).all (px_chk (px_cm c))) = true := by decide +kernel
theorem px_ck_204 : (List.range' 204 12).all (fun c => (px_ch c).all (px_chk (px_cm c))) = true := by decide +kernel
theorem px_ck_216 : (List.range' 216 12).all (fun c => (px_ch c).all (px_chk (px_cm c))) = true := by decide +kernel
theorem px_ck_228 : (List.range' 228 12).all (fun c => (px_ch c).all (px_chk (px_cm c))) = true := by decide +kernel
theorem px_ck_240 : (List.range' 240 12).all (fun c => (px_ch c).all (px_chk (px_cm c))) = true := by decide +kernel
theorem px_ck_252 : (List.range' 252 12).all (fun c => (px_ch c).all (px_chk (px_cm c))) = true := by decide +kernel
theorem px_ck_264 : (List.range' 264 12).all (fun c => (px_ch c).all (px_chk (px_cm c))) = true := by decide +kernel
theorem px_ck_276 : (List.range' 276 12).all (fun c => (px_ch c).all (px_chk (px_cm c))) = true := by decide +kernel
theorem px_ck_288 : (List.range' 288 12).all (fun c => (px_ch c).all (px_chk (px_cm c))) = true := by decide +kernel
theorem px_ck_300 : (List.range' 300 12).all (fun c => (px_ch c).all (px_chk (px_cm c))) = true := by decide +kernel
theorem px_ck_312 : (List.range' 312 12).all (fun c => (px_ch c).all (px_chk (px_cm c))) = true := by decide +kernel
theorem px_ck_324 : (List.range' 324 12).all (fun c => (px_ch c).all (px_chk (px_cm c))) = true := by decide +kernel
theorem px_ck_336 : (List.range' 336 12).all (fun c => (px_ch c).all (px_chk (px_cm c))) = true := by decide +kernel
theorem px_ck_348 : (List.range' 348 12).all (fun c => (px_ch c).all (px_chk (px_cm c))) = true := by decide +kernel
theorem px_ck_360 : (List.range' 360 12).all (fun c => (px_ch c).all (px_chk (px_cm c))) = true := by decide +kernel
theorem px_ck_372 : (List.range' 372 12).all (fun c => (px_ch c).all (px_chk (px_cm c))) = true := by decide +kernel
theorem px_ck_384 : (List.range' 384 11).all (fun c => (px_ch c).all (px_chk (px_cm c))) = true := by decide +kernel
theorem px_ck_395 : (List.range' 395 1).all (fun c => (px_ch c).all (px_chk (px_cm c))) = true := by decide +kernel
theorem px_ck_396 : (List.range' 396 1).all (fun c => (px_ch c).all (px_chk (px_cm c))) = true := by decide +kernel
theorem px_ck_397 : (List.range' 397 1).all (fun c => (px_ch c).all (px_chk (px_cm c))) = true := by decide +kernel
theorem px_ck_398 : (List.range' 398 1).all (fun c => (px_ch c).all (px_chk (px_cm c))) = true := by decide +kernel
theorem px_ck_399 : (List.range' 399 1).all (fun c => (px_ch c).all (px_chk (px_cm c))) = true := by decide +kernel
theorem px_ck_400 : (List.range' 400 1).all (fun c => (px_ch c).all (px_chk (px_cm c))) = true := by decide +kernel
theorem px_ck_401 : (List.range' 401 1).all (fun c => (px_ch c).all (px_chk (px_cm c))) = true := by decide +kernel
theorem px_ck_402 : (List.range' 402 1).all (fun c => (px_ch c).all (px_chk (px_cm c))) = true := by decide +kernel
theorem px_ck_403 : (List.range' 403 1).all (fun c => (px_ch c).all (px_chk (px_cm c))) = true := by decide +kernel
theorem px_ck_404 : (List.range' 404 1).all (fun c => (px_ch c).all (px_chk (px_cm c))) = true := by decide +kernel
theorem px_ck_405 : (List.range' 405 1).all (fun c => (px_ch c).all (px_chk (px_cm c))) = true := by decide +kernel
theorem px_ck_406 : (List.range' 406 1).all (fun c => (px_ch c).all (px_chk (px_cm c))) = true := by decide +kernel
theorem px_ck_407 : (List.range' 407 1).all (fun c => (px_ch c).all (px_chk (px_cm c))) = true := by decide +kernel
theorem px_ck_408 : (List.range' 408 1).all (fun c => (px_ch c).all (px_chk (px_cm c))) = true := by decide +kernel
theorem px_ck_409 : (List.range' 409 1).all (fun c => (px_ch c).all (px_chk (px_cm c))) = true := by decide +kernel
theorem px_ck_410 : (List.range' 410 1).all (fun c => (px_ch c).all (px_chk (px_cm c))) = true := by decide +kernel
theorem px_ck_411 : (List.range' 411 1).all (fun c => (px_ch c).all (px_chk (px_cm c))) = true := by decide +kernel
theorem px_ck_412 : (List.range' 412 1).all (fun c => (px_ch c).all (px_chk (px_cm c))) = true := by decide +kernel
theorem px_ck_413 : (List.range' 413 1).all (fun c => (px_ch c).all (px_chk (px_cm c))) = true := by decide +kernel
theorem px_ck_414 : (List.range' 414 1).all (fun c => (px_ch c).all (px_chk (px_cm c))) = true := by decide +kernel
theorem px_ck_415 : (List.range' 415 1).all (fun c => (px_ch c).all (px_chk (px_cm c))) = true := by decide +kernel
theorem px_ck (c : Nat) (h : c < 416) : (px_ch c).all (px_chk (px_cm c)) = true := by
  rcases Nat.lt_or_ge c 12 with h1 | h1
  · exact List.all_eq_true.mp px_ck_0 c (List.mem_range'_1.mpr (by omega))
  rcases Nat.lt_or_ge c 24 with h1 | h1
  · exact List.all_eq_true.mp px_ck_12 c (List.mem_range'_1.mpr (by omega))
  rcases Nat.lt_or_ge c 36 with h1 | h1
  · exact List.all_eq_true.mp px_ck_24 c (List.mem_range'_1.mpr (by omega))
  rcases Nat.lt_or_ge c 48 with h1 | h1
  · exact List.all_eq_true.mp px_ck_36 c (List.mem_range'_1.mpr (by omega))
  rcases Nat.lt_or_ge c 60 with h1 | h1
  · exact List.all_eq_true.mp px_ck_48 c (List.mem_range'_1.mpr (by omega))
  rcases Nat.lt_or_ge c 72 with h1 | h1
  · exact List.all_eq_true.mp px_ck_60 c (List.mem_range'_1.mpr (by omega))
  rcases Nat.lt_or_ge c 84 with h1 | h1
  · exact List.all_eq_true.mp px_ck_72 c (List.mem_range'_1.mpr (by omega))
  rcases Nat.lt_or_ge c 96 with h1 | h1
  · exact List.all_eq_true.mp px_ck_84 c (List.mem_range'_1.mpr (by omega))
  rcases Nat.lt_or_ge c 108 with h1 | h1
  · exact List.all_eq_true.mp px_ck_96 c (List.mem_range'_1.mpr (by omega))
  rcases Nat.lt_or_ge c 120 with h1 | h1
  · exact List.all_eq_true.mp px_ck_108 c (List.mem_range'_1.mpr (by omega))
  rcases Nat.lt_or_ge c 132 with h1 | h1
  · exact List.all_eq_true.mp px_ck_120 c (List.mem_range'_1.mpr (by omega))
  rcases Nat.lt_or_ge c 144 with h1 | h1
  · exact List.all_eq_true.mp px_ck_132 c (List.mem_range'_1.mpr (by omega))
  rcases Nat.lt_or_ge c 156 with h1 | h1
  · exact List.all_eq_true.mp px_ck_144 c (List.mem_range'_1.mpr (by omega))
  rcases Nat.lt_or_ge c 168 with h1 | h1
  · exact List.all_eq_true.mp px_ck_156 c (List.mem_range'_1.mpr (by omega))
  rcases Nat.lt_or_ge c 180 with h1 | h1
  · exact List.all_eq_true.mp px_ck_168 c (List.mem_range'_1.mpr (by omega))
  rcases Nat.lt_or_ge c 192 with h1 | h1
  · exact List.all_eq_true.mp px_ck_180 c (List.mem_range'_1.mpr (by omega))
  rcases Nat.lt_or_ge c 204 with h1 | h1
  · exact List.all_eq_true.mp px_ck_192 c (List.mem_range'_1.mpr (by omega))
  rcases Nat.lt_or_ge c 216 with h1 | h1
  · exact List.all_eq_true.mp px_ck_204 c (List.mem_range'_1.mpr (by omega))
  rcases Nat.lt_or_ge c 228 with h1 | h1
  · exact List.all_eq_true.mp px_ck_216 c (List.mem_range'_1.mpr (by omega))
  rcases Nat.lt_or_ge c 240 with h1 | h1
  · exact List.all_eq_true.mp px_ck_228 c (List.mem_range'_1.mpr (by omega))
  rcases Nat.lt_or_ge c 252 with h1 | h1
  · exact List.all_eq_true.mp px_ck_240 c (List.mem_range'_1.mpr (by omega))
  rcases Nat.lt_or_ge c 264 with h1 | h1
  · exact List.all_eq_true.mp px_ck_252 c (List.mem_range'_1.mpr (by omega))
  rcases Nat.lt_or_ge c 276 with h1 | h1
  · exact List.all_eq_true.mp px_ck_264 c (List.mem_range'_1.mpr (by omega))
  rcases Nat.lt_or_ge c 288 with h1 | h1
  · exact List.all_eq_true.mp px_ck_276 c (List.mem_range'_1.mpr (by omega))
  rcases Nat.lt_or_ge c 300 with h1 | h1
  · exact List.all_eq_true.mp px_ck_288 c (List.mem_range'_1.mpr (by omega))
  rcases Nat.lt_or_ge c 312 with h1 | h1
  · exact List.all_eq_true.mp px_ck_300 c (List.mem_range'_1.mpr (by omega))
  rcases Nat.lt_or_ge c 324 with h1 | h1
  · exact List.all_eq_true.mp px_ck_312 c (List.mem_range'_1.mpr (by omega))
  rcases Nat.lt_or_ge c 336 with h1 | h1
  · exact List.all_eq_true.mp px_ck_324 c (List.mem_range'_1.mpr (by omega))
  rcases Nat.lt_or_ge c 348 with h1 | h1
  · exact List.all_eq_true.mp px_ck_336 c (List.mem_range'_1.mpr (by omega))
  rcases Nat.lt_or_ge c 360 with h1 | h1
  · exact List.all_eq_true.mp px_ck_348 c (List.mem_range'_1.mpr (by omega))
  rcases Nat.lt_or_ge c 372 with h1 | h1
  · exact List.all_eq_true.mp px_ck_360 c (List.mem_range'_1.mpr (by omega))
  rcases Nat.lt_or_ge c 384 with h1 | h1
  · exact List.all_eq_true.mp px_ck_372 c (List.mem_range'_1.mpr (by omega))
  rcases Nat.lt_or_ge c 395 with h1 | h1
  · exact List.all_eq_true.mp px_ck_384 c (List.mem_range'_1.mpr (by omega))
  rcases Nat.lt_or_ge c 396 with h1 | h1
  · exact List.all_eq_true.mp px_ck_395 c (List.mem_range'_1.mpr (by omega))
  rcases Nat.lt_or_ge c 397 with h1 | h1
  · exact List.all_eq_true.mp px_ck_396 c (List.mem_range'_1.mpr (by omega))
  rcases Nat.lt_or_ge c 398 with h1 | h1
  · exact List.all_eq_true.mp px_ck_397 c (List.mem_range'_1.mpr (by omega))
  rcases Nat.lt_or_ge c 399 with h1 | h1
  · exact List.all_eq_true.mp px_ck_398 c (List.mem_range'_1.mpr (by omega))
  rcases Nat.lt_or_ge c 400 with h1 | h1
  · exact List.all_eq_true.mp px_ck_399 c (List.mem_range'_1.mpr (by omega))
  rcases Nat.lt_or_ge c 401 with h1 | h1
  · exact List.all_eq_true.mp px_ck_400 c (List.mem_range'_1.mpr (by omega))
  rcases Nat.lt_or_ge c 402 with h1 | h1
  · exact List.all_eq_true.mp px_ck_401 c (List.mem_range'_1.mpr (by omega))
  rcases Nat.lt_or_ge c 403 with h1 | h1
  · exact List.all_eq_true.mp px_ck_402 c (List.mem_range'_1.mpr (by omega))
  rcases Nat.lt_or_ge c 404 with h1 | h1
  · exact List.all_eq_true.mp px_ck_403 c (List.mem_range'_1.mpr (by omega))
  rcases Nat.lt_or_ge c 405 with h1 | h1
  · exact List.all_eq_true.mp px_ck_404 c (List.mem_range'_1.mpr (by omega))
  rcases Nat.lt_or_ge c 406 with h1 | h1
  · exact List.all_eq_true.mp px_ck_405 c (List.mem_range'_1.mpr (by omega))
  rcases Nat.lt_or_ge c 407 with h1 | h1
  · exact List.all_eq_true.mp px_ck_406 c (List.mem_range'_1.mpr (by omega))
  rcases Nat.lt_or_ge c 408 with h1 | h1
  · exact List.all_eq_true.mp px_ck_407 c (List.mem_range'_1.mpr (by omega))
  rcases Nat.lt_or_ge c 409 with h1 | h1
  · exact List.all_eq_true.mp px_ck_408 c (List.mem_range'_1.mpr (by omega))
  rcases Nat.lt_or_ge c 410 with h1 | h1
  · exact List.all_eq_true.mp px_ck_409 c (List.mem_range'_1.mpr (by omega))
  rcases Nat.lt_or_ge c 411 with h1 | h1
  · exact List.all_eq_true.mp px_ck_410 c (List.mem_range'_1.mpr (by omega))
  rcases Nat.lt_or_ge c 412 with h1 | h1
  · exact List.all_eq_true.mp px_ck_411 c (List.mem_range'_1.mpr (by omega))
  rcases Nat.lt_or_ge c 413 with h1 | h1
  · exact List.all_eq_true.mp px_ck_412 c (List.mem_range'_1.mpr (by omega))
  rcases Nat.lt_or_ge c 414 with h1 | h1
  · exact List.all_eq_true.mp px_ck_413 c (List.mem_range'_1.mpr (by omega))
  rcases Nat.lt_or_ge c 415 with h1 | h1
  · exact List.all_eq_true.mp px_ck_414 c (List.mem_range'_1.mpr (by omega))
  exact List.all_eq_true.mp px_ck_415 c (List.mem_range'_1.mpr (by omega))
theorem px_look_mem : ∀ (l : List (Nat × PE)) (pc : Nat) (e : PE), px_look l pc = some e → (pc, e) ∈ l
  | [], pc, e, h => by simp [px_look] at h
  | q :: r, pc, e, h => by
    unfold px_look at h
    cases hb : Nat.beq q.1 pc with
    | true =>
      rw [hb] at h
      have h1 : q.1 = pc := Nat.eq_of_beq_eq_true hb
      have h2 : q.2 = e := Option.some.inj h
      rw [← h1, ← h2]
      exact List.mem_cons_self
    | false =>
      rw [hb] at h
      exact List.mem_cons_of_mem _ (px_look_mem r pc e h)
