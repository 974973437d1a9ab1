/-! ===== what the constants name (by program: wip/whole/gen_links.py) ===== -/
theorem inW0 : ∀ w ∈ u_ws RX0 TX0 13, w ∈ wAll := by
  show ∀ w ∈ [(Cond.lays RX0 (TX0 0).1 (TX0 0).2.1 (TX0 0).2.2.1 : Cond), (Cond.lays RX0 (TX0 1).1 (TX0 1).2.1 (TX0 1).2.2.1 : Cond), (Cond.lays RX0 (TX0 2).1 (TX0 2).2.1 (TX0 2).2.2.1 : Cond), (Cond.lays RX0 (TX0 3).1 (TX0 3).2.1 (TX0 3).2.2.1 : Cond), (Cond.lays RX0 (TX0 4).1 (TX0 4).2.1 (TX0 4).2.2.1 : Cond), (Cond.lays RX0 (TX0 5).1 (TX0 5).2.1 (TX0 5).2.2.1 : Cond), (Cond.lays RX0 (TX0 6).1 (TX0 6).2.1 (TX0 6).2.2.1 : Cond), (Cond.lays RX0 (TX0 7).1 (TX0 7).2.1 (TX0 7).2.2.1 : Cond), (Cond.lays RX0 (TX0 8).1 (TX0 8).2.1 (TX0 8).2.2.1 : Cond), (Cond.lays RX0 (TX0 9).1 (TX0 9).2.1 (TX0 9).2.2.1 : Cond), (Cond.lays RX0 (TX0 10).1 (TX0 10).2.1 (TX0 10).2.2.1 : Cond), (Cond.lays RX0 (TX0 11).1 (TX0 11).2.1 (TX0 11).2.2.1 : Cond), (Cond.lays RX0 (TX0 12).1 (TX0 12).2.1 (TX0 12).2.2.1 : Cond)], w ∈ wAll
  exact List.forall_mem_cons.mpr ⟨wIn 190 (by decide +kernel) rfl, List.forall_mem_cons.mpr ⟨wIn 192 (by decide +kernel) rfl, List.forall_mem_cons.mpr ⟨wIn 194 (by decide +kernel) rfl, List.forall_mem_cons.mpr ⟨wIn 196 (by decide +kernel) rfl, List.forall_mem_cons.mpr ⟨wIn 198 (by decide +kernel) rfl, List.forall_mem_cons.mpr ⟨wIn 200 (by decide +kernel) rfl, List.forall_mem_cons.mpr ⟨wIn 202 (by decide +kernel) rfl, List.forall_mem_cons.mpr ⟨wIn 204 (by decide +kernel) rfl, List.forall_mem_cons.mpr ⟨wIn 206 (by decide +kernel) rfl, List.forall_mem_cons.mpr ⟨wIn 208 (by decide +kernel) rfl, List.forall_mem_cons.mpr ⟨wIn 210 (by decide +kernel) rfl, List.forall_mem_cons.mpr ⟨wIn 212 (by decide +kernel) rfl, List.forall_mem_cons.mpr ⟨wIn 214 (by decide +kernel) rfl, fun _ h => absurd h List.not_mem_nil⟩⟩⟩⟩⟩⟩⟩⟩⟩⟩⟩⟩⟩
theorem inW1 : ∀ w ∈ u_ws RX1 TX1 3, w ∈ wAll := by
  show ∀ w ∈ [(Cond.laysFinal RX1 (TX1 0).1 (TX1 0).2.1 (TX1 0).2.2.1 : Cond), (Cond.lays RX1 (TX1 1).1 (TX1 1).2.1 (TX1 1).2.2.1 : Cond), (Cond.lays RX1 (TX1 2).1 (TX1 2).2.1 (TX1 2).2.2.1 : Cond)], w ∈ wAll
  exact List.forall_mem_cons.mpr ⟨wIn 123 (by decide +kernel) rfl, List.forall_mem_cons.mpr ⟨wIn 125 (by decide +kernel) rfl, List.forall_mem_cons.mpr ⟨wIn 127 (by decide +kernel) rfl, fun _ h => absurd h List.not_mem_nil⟩⟩⟩
theorem inW2 : ∀ w ∈ u_ws RX2 TX2 12, w ∈ wAll := by
  show ∀ w ∈ [(Cond.laysFinal RX2 (TX2 0).1 (TX2 0).2.1 (TX2 0).2.2.1 : Cond), (Cond.laysFinal RX2 (TX2 1).1 (TX2 1).2.1 (TX2 1).2.2.1 : Cond), (Cond.laysFinal RX2 (TX2 2).1 (TX2 2).2.1 (TX2 2).2.2.1 : Cond), (Cond.laysFinal RX2 (TX2 3).1 (TX2 3).2.1 (TX2 3).2.2.1 : Cond), (Cond.lays RX2 (TX2 4).1 (TX2 4).2.1 (TX2 4).2.2.1 : Cond), (Cond.lays RX2 (TX2 5).1 (TX2 5).2.1 (TX2 5).2.2.1 : Cond), (Cond.lays RX2 (TX2 6).1 (TX2 6).2.1 (TX2 6).2.2.1 : Cond), (Cond.lays RX2 (TX2 7).1 (TX2 7).2.1 (TX2 7).2.2.1 : Cond), (Cond.lays RX2 (TX2 8).1 (TX2 8).2.1 (TX2 8).2.2.1 : Cond), (Cond.lays RX2 (TX2 9).1 (TX2 9).2.1 (TX2 9).2.2.1 : Cond), (Cond.lays RX2 (TX2 10).1 (TX2 10).2.1 (TX2 10).2.2.1 : Cond), (Cond.lays RX2 (TX2 11).1 (TX2 11).2.1 (TX2 11).2.2.1 : Cond)], w ∈ wAll
  exact List.forall_mem_cons.mpr ⟨wIn 320 (by decide +kernel) rfl, List.forall_mem_cons.mpr ⟨wIn 322 (by decide +kernel) rfl, List.forall_mem_cons.mpr ⟨wIn 324 (by decide +kernel) rfl, List.forall_mem_cons.mpr ⟨wIn 326 (by decide +kernel) rfl, List.forall_mem_cons.mpr ⟨wIn 328 (by decide +kernel) rfl, List.forall_mem_cons.mpr ⟨wIn 330 (by decide +kernel) rfl, List.forall_mem_cons.mpr ⟨wIn 332 (by decide +kernel) rfl, List.forall_mem_cons.mpr ⟨wIn 334 (by decide +kernel) rfl, List.forall_mem_cons.mpr ⟨wIn 336 (by decide +kernel) rfl, List.forall_mem_cons.mpr ⟨wIn 338 (by decide +kernel) rfl, List.forall_mem_cons.mpr ⟨wIn 340 (by decide +kernel) rfl, List.forall_mem_cons.mpr ⟨wIn 342 (by decide +kernel) rfl, fun _ h => absurd h List.not_mem_nil⟩⟩⟩⟩⟩⟩⟩⟩⟩⟩⟩⟩
theorem inW3 : ∀ w ∈ u_ws RX3 TX3 20, w ∈ wAll := by
  show ∀ w ∈ [(Cond.lays RX3 (TX3 0).1 (TX3 0).2.1 (TX3 0).2.2.1 : Cond), (Cond.lays RX3 (TX3 1).1 (TX3 1).2.1 (TX3 1).2.2.1 : Cond), (Cond.lays RX3 (TX3 2).1 (TX3 2).2.1 (TX3 2).2.2.1 : Cond), (Cond.lays RX3 (TX3 3).1 (TX3 3).2.1 (TX3 3).2.2.1 : Cond), (Cond.lays RX3 (TX3 4).1 (TX3 4).2.1 (TX3 4).2.2.1 : Cond), (Cond.lays RX3 (TX3 5).1 (TX3 5).2.1 (TX3 5).2.2.1 : Cond), (Cond.lays RX3 (TX3 6).1 (TX3 6).2.1 (TX3 6).2.2.1 : Cond), (Cond.lays RX3 (TX3 7).1 (TX3 7).2.1 (TX3 7).2.2.1 : Cond), (Cond.lays RX3 (TX3 8).1 (TX3 8).2.1 (TX3 8).2.2.1 : Cond), (Cond.lays RX3 (TX3 9).1 (TX3 9).2.1 (TX3 9).2.2.1 : Cond), (Cond.lays RX3 (TX3 10).1 (TX3 10).2.1 (TX3 10).2.2.1 : Cond), (Cond.lays RX3 (TX3 11).1 (TX3 11).2.1 (TX3 11).2.2.1 : Cond), (Cond.lays RX3 (TX3 12).1 (TX3 12).2.1 (TX3 12).2.2.1 : Cond), (Cond.lays RX3 (TX3 13).1 (TX3 13).2.1 (TX3 13).2.2.1 : Cond), (Cond.lays RX3 (TX3 14).1 (TX3 14).2.1 (TX3 14).2.2.1 : Cond), (Cond.lays RX3 (TX3 15).1 (TX3 15).2.1 (TX3 15).2.2.1 : Cond), (Cond.lays RX3 (TX3 16).1 (TX3 16).2.1 (TX3 16).2.2.1 : Cond), (Cond.lays RX3 (TX3 17).1 (TX3 17).2.1 (TX3 17).2.2.1 : Cond), (Cond.lays RX3 (TX3 18).1 (TX3 18).2.1 (TX3 18).2.2.1 : Cond), (Cond.lays RX3 (TX3 19).1 (TX3 19).2.1 (TX3 19).2.2.1 : Cond)], w ∈ wAll
  exact List.forall_mem_cons.mpr ⟨wIn 262 (by decide +kernel) rfl, List.forall_mem_cons.mpr ⟨wIn 264 (by decide +kernel) rfl, List.forall_mem_cons.mpr ⟨wIn 266 (by decide +kernel) rfl, List.forall_mem_cons.mpr ⟨wIn 268 (by decide +kernel) rfl, List.forall_mem_cons.mpr ⟨wIn 270 (by decide +kernel) rfl, List.forall_mem_cons.mpr ⟨wIn 272 (by decide +kernel) rfl, List.forall_mem_cons.mpr ⟨wIn 274 (by decide +kernel) rfl, List.forall_mem_cons.mpr ⟨wIn 276 (by decide +kernel) rfl, List.forall_mem_cons.mpr ⟨wIn 278 (by decide +kernel) rfl, List.forall_mem_cons.mpr ⟨wIn 280 (by decide +kernel) rfl, List.forall_mem_cons.mpr ⟨wIn 282 (by decide +kernel) rfl, List.forall_mem_cons.mpr ⟨wIn 284 (by decide +kernel) rfl, List.forall_mem_cons.mpr ⟨wIn 286 (by decide +kernel) rfl, List.forall_mem_cons.mpr ⟨wIn 288 (by decide +kernel) rfl, List.forall_mem_cons.mpr ⟨wIn 290 (by decide +kernel) rfl, List.forall_mem_cons.mpr ⟨wIn 292 (by decide +kernel) rfl, List.forall_mem_cons.mpr ⟨wIn 294 (by decide +kernel) rfl, List.forall_mem_cons.mpr ⟨wIn 296 (by decide +kernel) rfl, List.forall_mem_cons.mpr ⟨wIn 298 (by decide +kernel) rfl, List.forall_mem_cons.mpr ⟨wIn 300 (by decide +kernel) rfl, fun _ h => absurd h List.not_mem_nil⟩⟩⟩⟩⟩⟩⟩⟩⟩⟩⟩⟩⟩⟩⟩⟩⟩⟩⟩⟩
theorem inW4 : ∀ w ∈ u_ws RX4 TX4 11, w ∈ wAll := by
  show ∀ w ∈ [(Cond.laysFinal RX4 (TX4 0).1 (TX4 0).2.1 (TX4 0).2.2.1 : Cond), (Cond.lays RX4 (TX4 1).1 (TX4 1).2.1 (TX4 1).2.2.1 : Cond), (Cond.lays RX4 (TX4 2).1 (TX4 2).2.1 (TX4 2).2.2.1 : Cond), (Cond.lays RX4 (TX4 3).1 (TX4 3).2.1 (TX4 3).2.2.1 : Cond), (Cond.lays RX4 (TX4 4).1 (TX4 4).2.1 (TX4 4).2.2.1 : Cond), (Cond.lays RX4 (TX4 5).1 (TX4 5).2.1 (TX4 5).2.2.1 : Cond), (Cond.lays RX4 (TX4 6).1 (TX4 6).2.1 (TX4 6).2.2.1 : Cond), (Cond.lays RX4 (TX4 7).1 (TX4 7).2.1 (TX4 7).2.2.1 : Cond), (Cond.lays RX4 (TX4 8).1 (TX4 8).2.1 (TX4 8).2.2.1 : Cond), (Cond.lays RX4 (TX4 9).1 (TX4 9).2.1 (TX4 9).2.2.1 : Cond), (Cond.lays RX4 (TX4 10).1 (TX4 10).2.1 (TX4 10).2.2.1 : Cond)], w ∈ wAll
  exact List.forall_mem_cons.mpr ⟨wIn 373 (by decide +kernel) rfl, List.forall_mem_cons.mpr ⟨wIn 375 (by decide +kernel) rfl, List.forall_mem_cons.mpr ⟨wIn 377 (by decide +kernel) rfl, List.forall_mem_cons.mpr ⟨wIn 379 (by decide +kernel) rfl, List.forall_mem_cons.mpr ⟨wIn 381 (by decide +kernel) rfl, List.forall_mem_cons.mpr ⟨wIn 383 (by decide +kernel) rfl, List.forall_mem_cons.mpr ⟨wIn 385 (by decide +kernel) rfl, List.forall_mem_cons.mpr ⟨wIn 387 (by decide +kernel) rfl, List.forall_mem_cons.mpr ⟨wIn 389 (by decide +kernel) rfl, List.forall_mem_cons.mpr ⟨wIn 391 (by decide +kernel) rfl, List.forall_mem_cons.mpr ⟨wIn 393 (by decide +kernel) rfl, fun _ h => absurd h List.not_mem_nil⟩⟩⟩⟩⟩⟩⟩⟩⟩⟩⟩
theorem inW5 : ∀ w ∈ u_ws RX5 TX5 3, w ∈ wAll := by
  show ∀ w ∈ [(Cond.laysFinal RX5 (TX5 0).1 (TX5 0).2.1 (TX5 0).2.2.1 : Cond), (Cond.lays RX5 (TX5 1).1 (TX5 1).2.1 (TX5 1).2.2.1 : Cond), (Cond.lays RX5 (TX5 2).1 (TX5 2).2.1 (TX5 2).2.2.1 : Cond)], w ∈ wAll
  exact List.forall_mem_cons.mpr ⟨wIn 150 (by decide +kernel) rfl, List.forall_mem_cons.mpr ⟨wIn 152 (by decide +kernel) rfl, List.forall_mem_cons.mpr ⟨wIn 154 (by decide +kernel) rfl, fun _ h => absurd h List.not_mem_nil⟩⟩⟩
theorem inW6 : ∀ w ∈ u_ws RX6 TX6 8, w ∈ wAll := by
  show ∀ w ∈ [(Cond.laysFinal RX6 (TX6 0).1 (TX6 0).2.1 (TX6 0).2.2.1 : Cond), (Cond.laysFinal RX6 (TX6 1).1 (TX6 1).2.1 (TX6 1).2.2.1 : Cond), (Cond.laysFinal RX6 (TX6 2).1 (TX6 2).2.1 (TX6 2).2.2.1 : Cond), (Cond.lays RX6 (TX6 3).1 (TX6 3).2.1 (TX6 3).2.2.1 : Cond), (Cond.lays RX6 (TX6 4).1 (TX6 4).2.1 (TX6 4).2.2.1 : Cond), (Cond.laysFinal RX6 (TX6 5).1 (TX6 5).2.1 (TX6 5).2.2.1 : Cond), (Cond.laysFinal RX6 (TX6 6).1 (TX6 6).2.1 (TX6 6).2.2.1 : Cond), (Cond.laysFinal RX6 (TX6 7).1 (TX6 7).2.1 (TX6 7).2.2.1 : Cond)], w ∈ wAll
  exact List.forall_mem_cons.mpr ⟨wIn 406 (by decide +kernel) rfl, List.forall_mem_cons.mpr ⟨wIn 408 (by decide +kernel) rfl, List.forall_mem_cons.mpr ⟨wIn 410 (by decide +kernel) rfl, List.forall_mem_cons.mpr ⟨wIn 412 (by decide +kernel) rfl, List.forall_mem_cons.mpr ⟨wIn 414 (by decide +kernel) rfl, List.forall_mem_cons.mpr ⟨wIn 416 (by decide +kernel) rfl, List.forall_mem_cons.mpr ⟨wIn 418 (by decide +kernel) rfl, List.forall_mem_cons.mpr ⟨wIn 420 (by decide +kernel) rfl, fun _ h => absurd h List.not_mem_nil⟩⟩⟩⟩⟩⟩⟩⟩
theorem inW7 : ∀ w ∈ u_ws RX7 TX7 21, w ∈ wAll := by
  show ∀ w ∈ [(Cond.laysFinal RX7 (TX7 0).1 (TX7 0).2.1 (TX7 0).2.2.1 : Cond), (Cond.laysFinal RX7 (TX7 1).1 (TX7 1).2.1 (TX7 1).2.2.1 : Cond), (Cond.laysFinal RX7 (TX7 2).1 (TX7 2).2.1 (TX7 2).2.2.1 : Cond), (Cond.laysFinal RX7 (TX7 3).1 (TX7 3).2.1 (TX7 3).2.2.1 : Cond), (Cond.laysFinal RX7 (TX7 4).1 (TX7 4).2.1 (TX7 4).2.2.1 : Cond), (Cond.laysFinal RX7 (TX7 5).1 (TX7 5).2.1 (TX7 5).2.2.1 : Cond), (Cond.laysFinal RX7 (TX7 6).1 (TX7 6).2.1 (TX7 6).2.2.1 : Cond), (Cond.lays RX7 (TX7 7).1 (TX7 7).2.1 (TX7 7).2.2.1 : Cond), (Cond.lays RX7 (TX7 8).1 (TX7 8).2.1 (TX7 8).2.2.1 : Cond), (Cond.laysFinal RX7 (TX7 9).1 (TX7 9).2.1 (TX7 9).2.2.1 : Cond), (Cond.lays RX7 (TX7 10).1 (TX7 10).2.1 (TX7 10).2.2.1 : Cond), (Cond.lays RX7 (TX7 11).1 (TX7 11).2.1 (TX7 11).2.2.1 : Cond), (Cond.lays RX7 (TX7 12).1 (TX7 12).2.1 (TX7 12).2.2.1 : Cond), (Cond.lays RX7 (TX7 13).1 (TX7 13).2.1 (TX7 13).2.2.1 : Cond), (Cond.lays RX7 (TX7 14).1 (TX7 14).2.1 (TX7 14).2.2.1 : Cond), (Cond.lays RX7 (TX7 15).1 (TX7 15).2.1 (TX7 15).2.2.1 : Cond), (Cond.lays RX7 (TX7 16).1 (TX7 16).2.1 (TX7 16).2.2.1 : Cond), (Cond.lays RX7 (TX7 17).1 (TX7 17).2.1 (TX7 17).2.2.1 : Cond), (Cond.lays RX7 (TX7 18).1 (TX7 18).2.1 (TX7 18).2.2.1 : Cond), (Cond.lays RX7 (TX7 19).1 (TX7 19).2.1 (TX7 19).2.2.1 : Cond), (Cond.lays RX7 (TX7 20).1 (TX7 20).2.1 (TX7 20).2.2.1 : Cond)], w ∈ wAll
  exact List.forall_mem_cons.mpr ⟨wIn 1005 (by decide +kernel) rfl, List.forall_mem_cons.mpr ⟨wIn 1007 (by decide +kernel) rfl, List.forall_mem_cons.mpr ⟨wIn 1009 (by decide +kernel) rfl, List.forall_mem_cons.mpr ⟨wIn 1011 (by decide +kernel) rfl, List.forall_mem_cons.mpr ⟨wIn 1013 (by decide +kernel) rfl, List.forall_mem_cons.mpr ⟨wIn 1015 (by decide +kernel) rfl, List.forall_mem_cons.mpr ⟨wIn 1017 (by decide +kernel) rfl, List.forall_mem_cons.mpr ⟨wIn 1019 (by decide +kernel) rfl, List.forall_mem_cons.mpr ⟨wIn 1021 (by decide +kernel) rfl, List.forall_mem_cons.mpr ⟨wIn 1023 (by decide +kernel) rfl, List.forall_mem_cons.mpr ⟨wIn 1025 (by decide +kernel) rfl, List.forall_mem_cons.mpr ⟨wIn 1027 (by decide +kernel) rfl, List.forall_mem_cons.mpr ⟨wIn 1029 (by decide +kernel) rfl, List.forall_mem_cons.mpr ⟨wIn 1031 (by decide +kernel) rfl, List.forall_mem_cons.mpr ⟨wIn 1033 (by decide +kernel) rfl, List.forall_mem_cons.mpr ⟨wIn 1035 (by decide +kernel) rfl, List.forall_mem_cons.mpr ⟨wIn 1037 (by decide +kernel) rfl, List.forall_mem_cons.mpr ⟨wIn 1039 (by decide +kernel) rfl, List.forall_mem_cons.mpr ⟨wIn 1041 (by decide +kernel) rfl, List.forall_mem_cons.mpr ⟨wIn 1043 (by decide +kernel) rfl, List.forall_mem_cons.mpr ⟨wIn 1045 (by decide +kernel) rfl, fun _ h => absurd h List.not_mem_nil⟩⟩⟩⟩⟩⟩⟩⟩⟩⟩⟩⟩⟩⟩⟩⟩⟩⟩⟩⟩⟩
theorem f_RX6_12 : wF RX6 12 6 0 := ⟨RX6, TX6, 8, rfl, by decide, wIn 398 (by decide +kernel) rfl, inW6⟩
theorem p_RX6_12 : wFP RX6 12 6 0 true (.object "StandingPayments$House") := ⟨RX6, TX6, 8, tyX6, rfl, by decide, wIn 398 (by decide +kernel) rfl, inW6, rfl, rfl, tyX6_ok, nmX6, fun _ => rfl⟩
theorem f_RX6_16 : wF RX6 16 6 1 := ⟨RX6, TX6, 8, rfl, by decide, wIn 399 (by decide +kernel) rfl, inW6⟩
theorem p_RX6_16 : wFP RX6 16 6 1 true (.object "StandingPayments$House") := ⟨RX6, TX6, 8, tyX6, rfl, by decide, wIn 399 (by decide +kernel) rfl, inW6, rfl, rfl, tyX6_ok, nmX6, fun _ => rfl⟩
theorem f_RX6_19 : wF RX6 19 6 2 := ⟨RX6, TX6, 8, rfl, by decide, wIn 400 (by decide +kernel) rfl, inW6⟩
theorem p_RX6_19 : wFP RX6 19 6 2 true (.array (.object "StandingPayments$House")) := ⟨RX6, TX6, 8, tyX6, rfl, by decide, wIn 400 (by decide +kernel) rfl, inW6, rfl, rfl, tyX6_ok, nmX6, fun _ => rfl⟩
theorem f_RX6_23 : wF RX6 23 6 5 := ⟨RX6, TX6, 8, rfl, by decide, wIn 403 (by decide +kernel) rfl, inW6⟩
theorem p_RX6_23 : wFP RX6 23 6 5 true (.array (.object "StandingPayments$House")) := ⟨RX6, TX6, 8, tyX6, rfl, by decide, wIn 403 (by decide +kernel) rfl, inW6, rfl, rfl, tyX6_ok, nmX6, fun _ => rfl⟩
theorem f_RX6_26 : wF RX6 26 6 6 := ⟨RX6, TX6, 8, rfl, by decide, wIn 404 (by decide +kernel) rfl, inW6⟩
theorem p_RX6_26 : wFP RX6 26 6 6 true (.array .boolean) := ⟨RX6, TX6, 8, tyX6, rfl, by decide, wIn 404 (by decide +kernel) rfl, inW6, rfl, rfl, tyX6_ok, nmX6, fun _ => rfl⟩
theorem f_RX6_33 : wF RX6 33 6 7 := ⟨RX6, TX6, 8, rfl, by decide, wIn 405 (by decide +kernel) rfl, inW6⟩
theorem p_RX6_33 : wFP RX6 33 6 7 true (.object "StandingPayments$Pad") := ⟨RX6, TX6, 8, tyX6, rfl, by decide, wIn 405 (by decide +kernel) rfl, inW6, rfl, rfl, tyX6_ok, nmX6, fun _ => rfl⟩
theorem f_RX6_48 : wF RX6 48 2 0 := ⟨RX2, TX2, 12, rfl, by decide, wIn 304 (by decide +kernel) rfl, inW2⟩
theorem f_RX6_89 : wF RX6 89 2 6 := ⟨RX2, TX2, 12, rfl, by decide, wIn 314 (by decide +kernel) rfl, inW2⟩
theorem p_RX6_89 : wFP RX6 89 2 6 false (.int) := ⟨RX2, TX2, 12, tyX2, rfl, by decide, wIn 314 (by decide +kernel) rfl, inW2, rfl, rfl, tyX2_ok, nmX2, fun h => by cases h⟩
theorem f_RX6_106 : wF RX6 106 2 1 := ⟨RX2, TX2, 12, rfl, by decide, wIn 306 (by decide +kernel) rfl, inW2⟩
theorem f_RX6_116 : wF RX6 116 0 12 := ⟨RX0, TX0, 13, rfl, by decide, wIn 188 (by decide +kernel) rfl, inW0⟩
theorem p_RX6_116 : wFP RX6 116 0 12 false (.double) := ⟨RX0, TX0, 13, tyX0, rfl, by decide, wIn 188 (by decide +kernel) rfl, inW0, rfl, rfl, tyX0_ok, nmX0, fun h => by cases h⟩
theorem f_RX6_130 : wF RX6 130 2 2 := ⟨RX2, TX2, 12, rfl, by decide, wIn 308 (by decide +kernel) rfl, inW2⟩
theorem f_RX6_138 : wF RX6 138 2 3 := ⟨RX2, TX2, 12, rfl, by decide, wIn 310 (by decide +kernel) rfl, inW2⟩
theorem f_RX6_142 : wF RX6 142 5 2 := ⟨RX5, TX5, 3, rfl, by decide, wIn 149 (by decide +kernel) rfl, inW5⟩
theorem p_RX6_142 : wFP RX6 142 5 2 false (.int) := ⟨RX5, TX5, 3, tyX5, rfl, by decide, wIn 149 (by decide +kernel) rfl, inW5, rfl, rfl, tyX5_ok, nmX5, fun h => by cases h⟩
theorem f_RX6_147 : wF RX6 147 5 0 := ⟨RX5, TX5, 3, rfl, by decide, wIn 145 (by decide +kernel) rfl, inW5⟩
theorem f_RX6_151 : wF RX6 151 4 1 := ⟨RX4, TX4, 11, rfl, by decide, wIn 354 (by decide +kernel) rfl, inW4⟩
theorem p_RX6_151 : wFP RX6 151 4 1 false (.int) := ⟨RX4, TX4, 11, tyX4, rfl, by decide, wIn 354 (by decide +kernel) rfl, inW4, rfl, rfl, tyX4_ok, nmX4, fun h => by cases h⟩
theorem f_RX6_154 : wF RX6 154 6 4 := ⟨RX6, TX6, 8, rfl, by decide, wIn 402 (by decide +kernel) rfl, inW6⟩
theorem p_RX6_154 : wFP RX6 154 6 4 false (.int) := ⟨RX6, TX6, 8, tyX6, rfl, by decide, wIn 402 (by decide +kernel) rfl, inW6, rfl, rfl, tyX6_ok, nmX6, fun _ => rfl⟩
theorem f_RX6_171 : wF RX6 171 0 3 := ⟨RX0, TX0, 13, rfl, by decide, wIn 171 (by decide +kernel) rfl, inW0⟩
theorem p_RX6_171 : wFP RX6 171 0 3 false (.long) := ⟨RX0, TX0, 13, tyX0, rfl, by decide, wIn 171 (by decide +kernel) rfl, inW0, rfl, rfl, tyX0_ok, nmX0, fun h => by cases h⟩
theorem f_RX6_176 : wF RX6 176 3 12 := ⟨RX3, TX3, 20, rfl, by decide, wIn 243 (by decide +kernel) rfl, inW3⟩
theorem p_RX6_176 : wFP RX6 176 3 12 false (.int) := ⟨RX3, TX3, 20, tyX3, rfl, by decide, wIn 243 (by decide +kernel) rfl, inW3, rfl, rfl, tyX3_ok, nmX3, fun h => by cases h⟩
theorem f_RX6_179 : wF RX6 179 3 13 := ⟨RX3, TX3, 20, rfl, by decide, wIn 247 (by decide +kernel) rfl, inW3⟩
theorem p_RX6_179 : wFP RX6 179 3 13 false (.int) := ⟨RX3, TX3, 20, tyX3, rfl, by decide, wIn 247 (by decide +kernel) rfl, inW3, rfl, rfl, tyX3_ok, nmX3, fun h => by cases h⟩
theorem f_RX6_182 : wF RX6 182 3 14 := ⟨RX3, TX3, 20, rfl, by decide, wIn 250 (by decide +kernel) rfl, inW3⟩
theorem p_RX6_182 : wFP RX6 182 3 14 false (.int) := ⟨RX3, TX3, 20, tyX3, rfl, by decide, wIn 250 (by decide +kernel) rfl, inW3, rfl, rfl, tyX3_ok, nmX3, fun h => by cases h⟩
theorem f_RX6_185 : wF RX6 185 3 15 := ⟨RX3, TX3, 20, rfl, by decide, wIn 253 (by decide +kernel) rfl, inW3⟩
theorem p_RX6_185 : wFP RX6 185 3 15 false (.int) := ⟨RX3, TX3, 20, tyX3, rfl, by decide, wIn 253 (by decide +kernel) rfl, inW3, rfl, rfl, tyX3_ok, nmX3, fun h => by cases h⟩
theorem f_RX6_195 : wF RX6 195 4 2 := ⟨RX4, TX4, 11, rfl, by decide, wIn 356 (by decide +kernel) rfl, inW4⟩
theorem p_RX6_195 : wFP RX6 195 4 2 false (.int) := ⟨RX4, TX4, 11, tyX4, rfl, by decide, wIn 356 (by decide +kernel) rfl, inW4, rfl, rfl, tyX4_ok, nmX4, fun h => by cases h⟩
theorem f_RX6_216 : wF RX6 216 6 3 := ⟨RX6, TX6, 8, rfl, by decide, wIn 401 (by decide +kernel) rfl, inW6⟩
theorem p_RX6_216 : wFP RX6 216 6 3 false (.int) := ⟨RX6, TX6, 8, tyX6, rfl, by decide, wIn 401 (by decide +kernel) rfl, inW6, rfl, rfl, tyX6_ok, nmX6, fun _ => rfl⟩
theorem f_RX6_219 : wF RX6 219 4 3 := ⟨RX4, TX4, 11, rfl, by decide, wIn 358 (by decide +kernel) rfl, inW4⟩
theorem p_RX6_219 : wFP RX6 219 4 3 false (.char) := ⟨RX4, TX4, 11, tyX4, rfl, by decide, wIn 358 (by decide +kernel) rfl, inW4, rfl, rfl, tyX4_ok, nmX4, fun h => by cases h⟩
theorem f_RX6_223 : wF RX6 223 4 8 := ⟨RX4, TX4, 11, rfl, by decide, wIn 368 (by decide +kernel) rfl, inW4⟩
theorem p_RX6_223 : wFP RX6 223 4 8 false (.int) := ⟨RX4, TX4, 11, tyX4, rfl, by decide, wIn 368 (by decide +kernel) rfl, inW4, rfl, rfl, tyX4_ok, nmX4, fun h => by cases h⟩
theorem f_RX6_226 : wF RX6 226 4 9 := ⟨RX4, TX4, 11, rfl, by decide, wIn 370 (by decide +kernel) rfl, inW4⟩
theorem p_RX6_226 : wFP RX6 226 4 9 false (.int) := ⟨RX4, TX4, 11, tyX4, rfl, by decide, wIn 370 (by decide +kernel) rfl, inW4, rfl, rfl, tyX4_ok, nmX4, fun h => by cases h⟩
theorem f_RX6_229 : wF RX6 229 4 4 := ⟨RX4, TX4, 11, rfl, by decide, wIn 360 (by decide +kernel) rfl, inW4⟩
theorem p_RX6_229 : wFP RX6 229 4 4 false (.int) := ⟨RX4, TX4, 11, tyX4, rfl, by decide, wIn 360 (by decide +kernel) rfl, inW4, rfl, rfl, tyX4_ok, nmX4, fun h => by cases h⟩
theorem f_RX6_232 : wF RX6 232 4 5 := ⟨RX4, TX4, 11, rfl, by decide, wIn 362 (by decide +kernel) rfl, inW4⟩
theorem p_RX6_232 : wFP RX6 232 4 5 false (.int) := ⟨RX4, TX4, 11, tyX4, rfl, by decide, wIn 362 (by decide +kernel) rfl, inW4, rfl, rfl, tyX4_ok, nmX4, fun h => by cases h⟩
theorem f_RX6_235 : wF RX6 235 4 6 := ⟨RX4, TX4, 11, rfl, by decide, wIn 364 (by decide +kernel) rfl, inW4⟩
theorem p_RX6_235 : wFP RX6 235 4 6 false (.int) := ⟨RX4, TX4, 11, tyX4, rfl, by decide, wIn 364 (by decide +kernel) rfl, inW4, rfl, rfl, tyX4_ok, nmX4, fun h => by cases h⟩
theorem f_RX6_238 : wF RX6 238 4 7 := ⟨RX4, TX4, 11, rfl, by decide, wIn 366 (by decide +kernel) rfl, inW4⟩
theorem p_RX6_238 : wFP RX6 238 4 7 false (.int) := ⟨RX4, TX4, 11, tyX4, rfl, by decide, wIn 366 (by decide +kernel) rfl, inW4, rfl, rfl, tyX4_ok, nmX4, fun h => by cases h⟩
theorem f_RX6_241 : wF RX6 241 4 10 := ⟨RX4, TX4, 11, rfl, by decide, wIn 372 (by decide +kernel) rfl, inW4⟩
theorem p_RX6_241 : wFP RX6 241 4 10 false (.int) := ⟨RX4, TX4, 11, tyX4, rfl, by decide, wIn 372 (by decide +kernel) rfl, inW4, rfl, rfl, tyX4_ok, nmX4, fun h => by cases h⟩
theorem f_RX0_9 : wF RX0 9 0 0 := ⟨RX0, TX0, 13, rfl, by decide, wIn 163 (by decide +kernel) rfl, inW0⟩
theorem p_RX0_9 : wFP RX0 9 0 0 false (.int) := ⟨RX0, TX0, 13, tyX0, rfl, by decide, wIn 163 (by decide +kernel) rfl, inW0, rfl, rfl, tyX0_ok, nmX0, fun _ => rfl⟩
theorem f_RX0_15 : wF RX0 15 0 1 := ⟨RX0, TX0, 13, rfl, by decide, wIn 165 (by decide +kernel) rfl, inW0⟩
theorem p_RX0_15 : wFP RX0 15 0 1 false (.int) := ⟨RX0, TX0, 13, tyX0, rfl, by decide, wIn 165 (by decide +kernel) rfl, inW0, rfl, rfl, tyX0_ok, nmX0, fun _ => rfl⟩
theorem f_RX0_18 : wF RX0 18 0 2 := ⟨RX0, TX0, 13, rfl, by decide, wIn 167 (by decide +kernel) rfl, inW0⟩
theorem p_RX0_18 : wFP RX0 18 0 2 false (.int) := ⟨RX0, TX0, 13, tyX0, rfl, by decide, wIn 167 (by decide +kernel) rfl, inW0, rfl, rfl, tyX0_ok, nmX0, fun _ => rfl⟩
theorem f_RX0_21 : wF RX0 21 0 3 := ⟨RX0, TX0, 13, rfl, by decide, wIn 169 (by decide +kernel) rfl, inW0⟩
theorem p_RX0_21 : wFP RX0 21 0 3 false (.long) := ⟨RX0, TX0, 13, tyX0, rfl, by decide, wIn 169 (by decide +kernel) rfl, inW0, rfl, rfl, tyX0_ok, nmX0, fun _ => rfl⟩
theorem f_RX0_25 : wF RX0 25 0 4 := ⟨RX0, TX0, 13, rfl, by decide, wIn 172 (by decide +kernel) rfl, inW0⟩
theorem p_RX0_25 : wFP RX0 25 0 4 false (.long) := ⟨RX0, TX0, 13, tyX0, rfl, by decide, wIn 172 (by decide +kernel) rfl, inW0, rfl, rfl, tyX0_ok, nmX0, fun _ => rfl⟩
theorem f_RX0_28 : wF RX0 28 0 5 := ⟨RX0, TX0, 13, rfl, by decide, wIn 174 (by decide +kernel) rfl, inW0⟩
theorem p_RX0_28 : wFP RX0 28 0 5 false (.long) := ⟨RX0, TX0, 13, tyX0, rfl, by decide, wIn 174 (by decide +kernel) rfl, inW0, rfl, rfl, tyX0_ok, nmX0, fun _ => rfl⟩
theorem f_RX0_31 : wF RX0 31 0 6 := ⟨RX0, TX0, 13, rfl, by decide, wIn 176 (by decide +kernel) rfl, inW0⟩
theorem p_RX0_31 : wFP RX0 31 0 6 false (.long) := ⟨RX0, TX0, 13, tyX0, rfl, by decide, wIn 176 (by decide +kernel) rfl, inW0, rfl, rfl, tyX0_ok, nmX0, fun _ => rfl⟩
theorem f_RX0_34 : wF RX0 34 0 7 := ⟨RX0, TX0, 13, rfl, by decide, wIn 178 (by decide +kernel) rfl, inW0⟩
theorem p_RX0_34 : wFP RX0 34 0 7 false (.long) := ⟨RX0, TX0, 13, tyX0, rfl, by decide, wIn 178 (by decide +kernel) rfl, inW0, rfl, rfl, tyX0_ok, nmX0, fun _ => rfl⟩
theorem f_RX0_37 : wF RX0 37 0 8 := ⟨RX0, TX0, 13, rfl, by decide, wIn 180 (by decide +kernel) rfl, inW0⟩
theorem p_RX0_37 : wFP RX0 37 0 8 false (.long) := ⟨RX0, TX0, 13, tyX0, rfl, by decide, wIn 180 (by decide +kernel) rfl, inW0, rfl, rfl, tyX0_ok, nmX0, fun _ => rfl⟩
theorem f_RX0_40 : wF RX0 40 0 9 := ⟨RX0, TX0, 13, rfl, by decide, wIn 182 (by decide +kernel) rfl, inW0⟩
theorem p_RX0_40 : wFP RX0 40 0 9 false (.long) := ⟨RX0, TX0, 13, tyX0, rfl, by decide, wIn 182 (by decide +kernel) rfl, inW0, rfl, rfl, tyX0_ok, nmX0, fun _ => rfl⟩
theorem f_RX0_43 : wF RX0 43 0 10 := ⟨RX0, TX0, 13, rfl, by decide, wIn 184 (by decide +kernel) rfl, inW0⟩
theorem p_RX0_43 : wFP RX0 43 0 10 false (.long) := ⟨RX0, TX0, 13, tyX0, rfl, by decide, wIn 184 (by decide +kernel) rfl, inW0, rfl, rfl, tyX0_ok, nmX0, fun _ => rfl⟩
theorem f_RX0_46 : wF RX0 46 0 11 := ⟨RX0, TX0, 13, rfl, by decide, wIn 185 (by decide +kernel) rfl, inW0⟩
theorem p_RX0_46 : wFP RX0 46 0 11 false (.long) := ⟨RX0, TX0, 13, tyX0, rfl, by decide, wIn 185 (by decide +kernel) rfl, inW0, rfl, rfl, tyX0_ok, nmX0, fun _ => rfl⟩
theorem f_RX0_49 : wF RX0 49 0 12 := ⟨RX0, TX0, 13, rfl, by decide, wIn 187 (by decide +kernel) rfl, inW0⟩
theorem p_RX0_49 : wFP RX0 49 0 12 false (.double) := ⟨RX0, TX0, 13, tyX0, rfl, by decide, wIn 187 (by decide +kernel) rfl, inW0, rfl, rfl, tyX0_ok, nmX0, fun _ => rfl⟩
theorem f_RX1_9 : wF RX1 9 1 0 := ⟨RX1, TX1, 3, rfl, by decide, wIn 118 (by decide +kernel) rfl, inW1⟩
theorem p_RX1_9 : wFP RX1 9 1 0 true (.array .long) := ⟨RX1, TX1, 3, tyX1, rfl, by decide, wIn 118 (by decide +kernel) rfl, inW1, rfl, rfl, tyX1_ok, nmX1, fun _ => rfl⟩
theorem f_RX1_21 : wF RX1 21 1 1 := ⟨RX1, TX1, 3, rfl, by decide, wIn 119 (by decide +kernel) rfl, inW1⟩
theorem p_RX1_21 : wFP RX1 21 1 1 false (.int) := ⟨RX1, TX1, 3, tyX1, rfl, by decide, wIn 119 (by decide +kernel) rfl, inW1, rfl, rfl, tyX1_ok, nmX1, fun _ => rfl⟩
theorem f_RX1_25 : wF RX1 25 1 2 := ⟨RX1, TX1, 3, rfl, by decide, wIn 121 (by decide +kernel) rfl, inW1⟩
theorem p_RX1_25 : wFP RX1 25 1 2 false (.int) := ⟨RX1, TX1, 3, tyX1, rfl, by decide, wIn 121 (by decide +kernel) rfl, inW1, rfl, rfl, tyX1_ok, nmX1, fun _ => rfl⟩
theorem f_RX2_12 : wF RX2 12 2 0 := ⟨RX2, TX2, 12, rfl, by decide, wIn 303 (by decide +kernel) rfl, inW2⟩
theorem p_RX2_12 : wFP RX2 12 2 0 true (.object "StandingPayments$Calendar") := ⟨RX2, TX2, 12, tyX2, rfl, by decide, wIn 303 (by decide +kernel) rfl, inW2, rfl, rfl, tyX2_ok, nmX2, fun _ => rfl⟩
theorem f_RX2_20 : wF RX2 20 2 1 := ⟨RX2, TX2, 12, rfl, by decide, wIn 305 (by decide +kernel) rfl, inW2⟩
theorem p_RX2_20 : wFP RX2 20 2 1 true (.array (.object "StandingPayments$Account")) := ⟨RX2, TX2, 12, tyX2, rfl, by decide, wIn 305 (by decide +kernel) rfl, inW2, rfl, rfl, tyX2_ok, nmX2, fun _ => rfl⟩
theorem f_RX2_26 : wF RX2 26 2 2 := ⟨RX2, TX2, 12, rfl, by decide, wIn 307 (by decide +kernel) rfl, inW2⟩
theorem p_RX2_26 : wFP RX2 26 2 2 true (.array (.object "StandingPayments$Order")) := ⟨RX2, TX2, 12, tyX2, rfl, by decide, wIn 307 (by decide +kernel) rfl, inW2, rfl, rfl, tyX2_ok, nmX2, fun _ => rfl⟩
theorem f_RX2_33 : wF RX2 33 2 3 := ⟨RX2, TX2, 12, rfl, by decide, wIn 309 (by decide +kernel) rfl, inW2⟩
theorem p_RX2_33 : wFP RX2 33 2 3 true (.object "StandingPayments$Waiting") := ⟨RX2, TX2, 12, tyX2, rfl, by decide, wIn 309 (by decide +kernel) rfl, inW2, rfl, rfl, tyX2_ok, nmX2, fun _ => rfl⟩
theorem f_RX2_37 : wF RX2 37 2 7 := ⟨RX2, TX2, 12, rfl, by decide, wIn 315 (by decide +kernel) rfl, inW2⟩
theorem p_RX2_37 : wFP RX2 37 2 7 false (.int) := ⟨RX2, TX2, 12, tyX2, rfl, by decide, wIn 315 (by decide +kernel) rfl, inW2, rfl, rfl, tyX2_ok, nmX2, fun _ => rfl⟩
theorem f_RX2_41 : wF RX2 41 2 8 := ⟨RX2, TX2, 12, rfl, by decide, wIn 316 (by decide +kernel) rfl, inW2⟩
theorem p_RX2_41 : wFP RX2 41 2 8 false (.int) := ⟨RX2, TX2, 12, tyX2, rfl, by decide, wIn 316 (by decide +kernel) rfl, inW2, rfl, rfl, tyX2_ok, nmX2, fun _ => rfl⟩
theorem f_RX2_44 : wF RX2 44 2 9 := ⟨RX2, TX2, 12, rfl, by decide, wIn 317 (by decide +kernel) rfl, inW2⟩
theorem p_RX2_44 : wFP RX2 44 2 9 false (.int) := ⟨RX2, TX2, 12, tyX2, rfl, by decide, wIn 317 (by decide +kernel) rfl, inW2, rfl, rfl, tyX2_ok, nmX2, fun _ => rfl⟩
theorem f_RX2_53 : wF RX2 53 2 4 := ⟨RX2, TX2, 12, rfl, by decide, wIn 311 (by decide +kernel) rfl, inW2⟩
theorem p_RX2_53 : wFP RX2 53 2 4 false (.int) := ⟨RX2, TX2, 12, tyX2, rfl, by decide, wIn 311 (by decide +kernel) rfl, inW2, rfl, rfl, tyX2_ok, nmX2, fun _ => rfl⟩
theorem f_RX2_59 : wF RX2 59 2 5 := ⟨RX2, TX2, 12, rfl, by decide, wIn 312 (by decide +kernel) rfl, inW2⟩
theorem p_RX2_59 : wFP RX2 59 2 5 false (.int) := ⟨RX2, TX2, 12, tyX2, rfl, by decide, wIn 312 (by decide +kernel) rfl, inW2, rfl, rfl, tyX2_ok, nmX2, fun _ => rfl⟩
theorem f_RX2_68 : wF RX2 68 2 6 := ⟨RX2, TX2, 12, rfl, by decide, wIn 313 (by decide +kernel) rfl, inW2⟩
theorem p_RX2_68 : wFP RX2 68 2 6 false (.int) := ⟨RX2, TX2, 12, tyX2, rfl, by decide, wIn 313 (by decide +kernel) rfl, inW2, rfl, rfl, tyX2_ok, nmX2, fun _ => rfl⟩
theorem f_RX2_71 : wF RX2 71 2 10 := ⟨RX2, TX2, 12, rfl, by decide, wIn 318 (by decide +kernel) rfl, inW2⟩
theorem p_RX2_71 : wFP RX2 71 2 10 false (.int) := ⟨RX2, TX2, 12, tyX2, rfl, by decide, wIn 318 (by decide +kernel) rfl, inW2, rfl, rfl, tyX2_ok, nmX2, fun _ => rfl⟩
theorem f_RX2_74 : wF RX2 74 1 2 := ⟨RX1, TX1, 3, rfl, by decide, wIn 122 (by decide +kernel) rfl, inW1⟩
theorem p_RX2_74 : wFP RX2 74 1 2 false (.int) := ⟨RX1, TX1, 3, tyX1, rfl, by decide, wIn 122 (by decide +kernel) rfl, inW1, rfl, rfl, tyX1_ok, nmX1, fun h => by cases h⟩
theorem f_RX2_101 : wF RX2 101 0 2 := ⟨RX0, TX0, 13, rfl, by decide, wIn 168 (by decide +kernel) rfl, inW0⟩
theorem p_RX2_101 : wFP RX2 101 0 2 false (.int) := ⟨RX0, TX0, 13, tyX0, rfl, by decide, wIn 168 (by decide +kernel) rfl, inW0, rfl, rfl, tyX0_ok, nmX0, fun h => by cases h⟩
theorem f_RX2_105 : wF RX2 105 0 3 := ⟨RX0, TX0, 13, rfl, by decide, wIn 170 (by decide +kernel) rfl, inW0⟩
theorem p_RX2_105 : wFP RX2 105 0 3 false (.long) := ⟨RX0, TX0, 13, tyX0, rfl, by decide, wIn 170 (by decide +kernel) rfl, inW0, rfl, rfl, tyX0_ok, nmX0, fun h => by cases h⟩
theorem f_RX2_109 : wF RX2 109 0 4 := ⟨RX0, TX0, 13, rfl, by decide, wIn 173 (by decide +kernel) rfl, inW0⟩
theorem p_RX2_109 : wFP RX2 109 0 4 false (.long) := ⟨RX0, TX0, 13, tyX0, rfl, by decide, wIn 173 (by decide +kernel) rfl, inW0, rfl, rfl, tyX0_ok, nmX0, fun h => by cases h⟩
theorem f_RX2_127 : wF RX2 127 3 11 := ⟨RX3, TX3, 20, rfl, by decide, wIn 241 (by decide +kernel) rfl, inW3⟩
theorem p_RX2_127 : wFP RX2 127 3 11 false (.int) := ⟨RX3, TX3, 20, tyX3, rfl, by decide, wIn 241 (by decide +kernel) rfl, inW3, rfl, rfl, tyX3_ok, nmX3, fun h => by cases h⟩
theorem f_RX2_130 : wF RX2 130 3 2 := ⟨RX3, TX3, 20, rfl, by decide, wIn 227 (by decide +kernel) rfl, inW3⟩
theorem p_RX2_130 : wFP RX2 130 3 2 false (.int) := ⟨RX3, TX3, 20, tyX3, rfl, by decide, wIn 227 (by decide +kernel) rfl, inW3, rfl, rfl, tyX3_ok, nmX3, fun h => by cases h⟩
theorem f_RX2_133 : wF RX2 133 3 8 := ⟨RX3, TX3, 20, rfl, by decide, wIn 235 (by decide +kernel) rfl, inW3⟩
theorem p_RX2_133 : wFP RX2 133 3 8 false (.int) := ⟨RX3, TX3, 20, tyX3, rfl, by decide, wIn 235 (by decide +kernel) rfl, inW3, rfl, rfl, tyX3_ok, nmX3, fun h => by cases h⟩
theorem f_RX2_136 : wF RX2 136 3 15 := ⟨RX3, TX3, 20, rfl, by decide, wIn 252 (by decide +kernel) rfl, inW3⟩
theorem p_RX2_136 : wFP RX2 136 3 15 false (.int) := ⟨RX3, TX3, 20, tyX3, rfl, by decide, wIn 252 (by decide +kernel) rfl, inW3, rfl, rfl, tyX3_ok, nmX3, fun h => by cases h⟩
theorem f_RX2_138 : wF RX2 138 5 2 := ⟨RX5, TX5, 3, rfl, by decide, wIn 148 (by decide +kernel) rfl, inW5⟩
theorem p_RX2_138 : wFP RX2 138 5 2 false (.int) := ⟨RX5, TX5, 3, tyX5, rfl, by decide, wIn 148 (by decide +kernel) rfl, inW5, rfl, rfl, tyX5_ok, nmX5, fun h => by cases h⟩
theorem f_RX2_141 : wF RX2 141 5 0 := ⟨RX5, TX5, 3, rfl, by decide, wIn 144 (by decide +kernel) rfl, inW5⟩
theorem f_RX2_145 : wF RX2 145 3 13 := ⟨RX3, TX3, 20, rfl, by decide, wIn 246 (by decide +kernel) rfl, inW3⟩
theorem p_RX2_145 : wFP RX2 145 3 13 false (.int) := ⟨RX3, TX3, 20, tyX3, rfl, by decide, wIn 246 (by decide +kernel) rfl, inW3, rfl, rfl, tyX3_ok, nmX3, fun h => by cases h⟩
theorem f_RX2_158 : wF RX2 158 3 18 := ⟨RX3, TX3, 20, rfl, by decide, wIn 259 (by decide +kernel) rfl, inW3⟩
theorem p_RX2_158 : wFP RX2 158 3 18 false (.int) := ⟨RX3, TX3, 20, tyX3, rfl, by decide, wIn 259 (by decide +kernel) rfl, inW3, rfl, rfl, tyX3_ok, nmX3, fun h => by cases h⟩
theorem f_RX2_161 : wF RX2 161 1 1 := ⟨RX1, TX1, 3, rfl, by decide, wIn 120 (by decide +kernel) rfl, inW1⟩
theorem p_RX2_161 : wFP RX2 161 1 1 false (.int) := ⟨RX1, TX1, 3, tyX1, rfl, by decide, wIn 120 (by decide +kernel) rfl, inW1, rfl, rfl, tyX1_ok, nmX1, fun h => by cases h⟩
theorem f_RX2_170 : wF RX2 170 2 11 := ⟨RX2, TX2, 12, rfl, by decide, wIn 319 (by decide +kernel) rfl, inW2⟩
theorem p_RX2_170 : wFP RX2 170 2 11 false (.int) := ⟨RX2, TX2, 12, tyX2, rfl, by decide, wIn 319 (by decide +kernel) rfl, inW2, rfl, rfl, tyX2_ok, nmX2, fun _ => rfl⟩
theorem f_RX2_192 : wF RX2 192 3 19 := ⟨RX3, TX3, 20, rfl, by decide, wIn 261 (by decide +kernel) rfl, inW3⟩
theorem p_RX2_192 : wFP RX2 192 3 19 false (.int) := ⟨RX3, TX3, 20, tyX3, rfl, by decide, wIn 261 (by decide +kernel) rfl, inW3, rfl, rfl, tyX3_ok, nmX3, fun h => by cases h⟩
theorem f_RX2_198 : wF RX2 198 3 17 := ⟨RX3, TX3, 20, rfl, by decide, wIn 257 (by decide +kernel) rfl, inW3⟩
theorem p_RX2_198 : wFP RX2 198 3 17 false (.int) := ⟨RX3, TX3, 20, tyX3, rfl, by decide, wIn 257 (by decide +kernel) rfl, inW3, rfl, rfl, tyX3_ok, nmX3, fun h => by cases h⟩
theorem f_RX2_201 : wF RX2 201 3 16 := ⟨RX3, TX3, 20, rfl, by decide, wIn 255 (by decide +kernel) rfl, inW3⟩
theorem p_RX2_201 : wFP RX2 201 3 16 false (.int) := ⟨RX3, TX3, 20, tyX3, rfl, by decide, wIn 255 (by decide +kernel) rfl, inW3, rfl, rfl, tyX3_ok, nmX3, fun h => by cases h⟩
theorem f_RX2_204 : wF RX2 204 3 9 := ⟨RX3, TX3, 20, rfl, by decide, wIn 237 (by decide +kernel) rfl, inW3⟩
theorem p_RX2_204 : wFP RX2 204 3 9 false (.boolean) := ⟨RX3, TX3, 20, tyX3, rfl, by decide, wIn 237 (by decide +kernel) rfl, inW3, rfl, rfl, tyX3_ok, nmX3, fun h => by cases h⟩
theorem f_RX2_208 : wF RX2 208 3 10 := ⟨RX3, TX3, 20, rfl, by decide, wIn 239 (by decide +kernel) rfl, inW3⟩
theorem p_RX2_208 : wFP RX2 208 3 10 false (.int) := ⟨RX3, TX3, 20, tyX3, rfl, by decide, wIn 239 (by decide +kernel) rfl, inW3, rfl, rfl, tyX3_ok, nmX3, fun h => by cases h⟩
theorem f_RX2_211 : wF RX2 211 3 7 := ⟨RX3, TX3, 20, rfl, by decide, wIn 233 (by decide +kernel) rfl, inW3⟩
theorem p_RX2_211 : wFP RX2 211 3 7 false (.int) := ⟨RX3, TX3, 20, tyX3, rfl, by decide, wIn 233 (by decide +kernel) rfl, inW3, rfl, rfl, tyX3_ok, nmX3, fun h => by cases h⟩
theorem f_RX2_214 : wF RX2 214 3 14 := ⟨RX3, TX3, 20, rfl, by decide, wIn 249 (by decide +kernel) rfl, inW3⟩
theorem p_RX2_214 : wFP RX2 214 3 14 false (.int) := ⟨RX3, TX3, 20, tyX3, rfl, by decide, wIn 249 (by decide +kernel) rfl, inW3, rfl, rfl, tyX3_ok, nmX3, fun h => by cases h⟩
theorem f_RX2_221 : wF RX2 221 3 0 := ⟨RX3, TX3, 20, rfl, by decide, wIn 223 (by decide +kernel) rfl, inW3⟩
theorem p_RX2_221 : wFP RX2 221 3 0 false (.int) := ⟨RX3, TX3, 20, tyX3, rfl, by decide, wIn 223 (by decide +kernel) rfl, inW3, rfl, rfl, tyX3_ok, nmX3, fun h => by cases h⟩
theorem f_RX2_224 : wF RX2 224 0 11 := ⟨RX0, TX0, 13, rfl, by decide, wIn 186 (by decide +kernel) rfl, inW0⟩
theorem p_RX2_224 : wFP RX2 224 0 11 false (.long) := ⟨RX0, TX0, 13, tyX0, rfl, by decide, wIn 186 (by decide +kernel) rfl, inW0, rfl, rfl, tyX0_ok, nmX0, fun h => by cases h⟩
theorem f_RX2_227 : wF RX2 227 0 0 := ⟨RX0, TX0, 13, rfl, by decide, wIn 164 (by decide +kernel) rfl, inW0⟩
theorem p_RX2_227 : wFP RX2 227 0 0 false (.int) := ⟨RX0, TX0, 13, tyX0, rfl, by decide, wIn 164 (by decide +kernel) rfl, inW0, rfl, rfl, tyX0_ok, nmX0, fun h => by cases h⟩
theorem f_RX2_230 : wF RX2 230 0 1 := ⟨RX0, TX0, 13, rfl, by decide, wIn 166 (by decide +kernel) rfl, inW0⟩
theorem p_RX2_230 : wFP RX2 230 0 1 false (.int) := ⟨RX0, TX0, 13, tyX0, rfl, by decide, wIn 166 (by decide +kernel) rfl, inW0, rfl, rfl, tyX0_ok, nmX0, fun h => by cases h⟩
theorem f_RX2_239 : wF RX2 239 0 8 := ⟨RX0, TX0, 13, rfl, by decide, wIn 181 (by decide +kernel) rfl, inW0⟩
theorem p_RX2_239 : wFP RX2 239 0 8 false (.long) := ⟨RX0, TX0, 13, tyX0, rfl, by decide, wIn 181 (by decide +kernel) rfl, inW0, rfl, rfl, tyX0_ok, nmX0, fun h => by cases h⟩
theorem f_RX2_242 : wF RX2 242 0 7 := ⟨RX0, TX0, 13, rfl, by decide, wIn 179 (by decide +kernel) rfl, inW0⟩
theorem p_RX2_242 : wFP RX2 242 0 7 false (.long) := ⟨RX0, TX0, 13, tyX0, rfl, by decide, wIn 179 (by decide +kernel) rfl, inW0, rfl, rfl, tyX0_ok, nmX0, fun h => by cases h⟩
theorem f_RX2_254 : wF RX2 254 0 5 := ⟨RX0, TX0, 13, rfl, by decide, wIn 175 (by decide +kernel) rfl, inW0⟩
theorem p_RX2_254 : wFP RX2 254 0 5 false (.long) := ⟨RX0, TX0, 13, tyX0, rfl, by decide, wIn 175 (by decide +kernel) rfl, inW0, rfl, rfl, tyX0_ok, nmX0, fun h => by cases h⟩
theorem f_RX2_257 : wF RX2 257 3 1 := ⟨RX3, TX3, 20, rfl, by decide, wIn 225 (by decide +kernel) rfl, inW3⟩
theorem p_RX2_257 : wFP RX2 257 3 1 false (.int) := ⟨RX3, TX3, 20, tyX3, rfl, by decide, wIn 225 (by decide +kernel) rfl, inW3, rfl, rfl, tyX3_ok, nmX3, fun h => by cases h⟩
theorem f_RX2_260 : wF RX2 260 0 6 := ⟨RX0, TX0, 13, rfl, by decide, wIn 177 (by decide +kernel) rfl, inW0⟩
theorem p_RX2_260 : wFP RX2 260 0 6 false (.long) := ⟨RX0, TX0, 13, tyX0, rfl, by decide, wIn 177 (by decide +kernel) rfl, inW0, rfl, rfl, tyX0_ok, nmX0, fun h => by cases h⟩
theorem f_RX2_263 : wF RX2 263 3 12 := ⟨RX3, TX3, 20, rfl, by decide, wIn 244 (by decide +kernel) rfl, inW3⟩
theorem p_RX2_263 : wFP RX2 263 3 12 false (.int) := ⟨RX3, TX3, 20, tyX3, rfl, by decide, wIn 244 (by decide +kernel) rfl, inW3, rfl, rfl, tyX3_ok, nmX3, fun h => by cases h⟩
theorem f_RX2_266 : wF RX2 266 0 9 := ⟨RX0, TX0, 13, rfl, by decide, wIn 183 (by decide +kernel) rfl, inW0⟩
theorem p_RX2_266 : wFP RX2 266 0 9 false (.long) := ⟨RX0, TX0, 13, tyX0, rfl, by decide, wIn 183 (by decide +kernel) rfl, inW0, rfl, rfl, tyX0_ok, nmX0, fun h => by cases h⟩
theorem f_RX2_276 : wF RX2 276 0 12 := ⟨RX0, TX0, 13, rfl, by decide, wIn 189 (by decide +kernel) rfl, inW0⟩
theorem p_RX2_276 : wFP RX2 276 0 12 false (.double) := ⟨RX0, TX0, 13, tyX0, rfl, by decide, wIn 189 (by decide +kernel) rfl, inW0, rfl, rfl, tyX0_ok, nmX0, fun h => by cases h⟩
theorem f_RX3_9 : wF RX3 9 3 0 := ⟨RX3, TX3, 20, rfl, by decide, wIn 222 (by decide +kernel) rfl, inW3⟩
theorem p_RX3_9 : wFP RX3 9 3 0 false (.int) := ⟨RX3, TX3, 20, tyX3, rfl, by decide, wIn 222 (by decide +kernel) rfl, inW3, rfl, rfl, tyX3_ok, nmX3, fun _ => rfl⟩
theorem f_RX3_15 : wF RX3 15 3 1 := ⟨RX3, TX3, 20, rfl, by decide, wIn 224 (by decide +kernel) rfl, inW3⟩
theorem p_RX3_15 : wFP RX3 15 3 1 false (.int) := ⟨RX3, TX3, 20, tyX3, rfl, by decide, wIn 224 (by decide +kernel) rfl, inW3, rfl, rfl, tyX3_ok, nmX3, fun _ => rfl⟩
theorem f_RX3_18 : wF RX3 18 3 2 := ⟨RX3, TX3, 20, rfl, by decide, wIn 226 (by decide +kernel) rfl, inW3⟩
theorem p_RX3_18 : wFP RX3 18 3 2 false (.int) := ⟨RX3, TX3, 20, tyX3, rfl, by decide, wIn 226 (by decide +kernel) rfl, inW3, rfl, rfl, tyX3_ok, nmX3, fun _ => rfl⟩
theorem f_RX3_21 : wF RX3 21 3 3 := ⟨RX3, TX3, 20, rfl, by decide, wIn 228 (by decide +kernel) rfl, inW3⟩
theorem p_RX3_21 : wFP RX3 21 3 3 false (.int) := ⟨RX3, TX3, 20, tyX3, rfl, by decide, wIn 228 (by decide +kernel) rfl, inW3, rfl, rfl, tyX3_ok, nmX3, fun _ => rfl⟩
theorem f_RX3_24 : wF RX3 24 3 4 := ⟨RX3, TX3, 20, rfl, by decide, wIn 229 (by decide +kernel) rfl, inW3⟩
theorem p_RX3_24 : wFP RX3 24 3 4 false (.int) := ⟨RX3, TX3, 20, tyX3, rfl, by decide, wIn 229 (by decide +kernel) rfl, inW3, rfl, rfl, tyX3_ok, nmX3, fun _ => rfl⟩
theorem f_RX3_27 : wF RX3 27 3 5 := ⟨RX3, TX3, 20, rfl, by decide, wIn 230 (by decide +kernel) rfl, inW3⟩
theorem p_RX3_27 : wFP RX3 27 3 5 false (.int) := ⟨RX3, TX3, 20, tyX3, rfl, by decide, wIn 230 (by decide +kernel) rfl, inW3, rfl, rfl, tyX3_ok, nmX3, fun _ => rfl⟩
theorem f_RX3_30 : wF RX3 30 3 6 := ⟨RX3, TX3, 20, rfl, by decide, wIn 231 (by decide +kernel) rfl, inW3⟩
theorem p_RX3_30 : wFP RX3 30 3 6 false (.int) := ⟨RX3, TX3, 20, tyX3, rfl, by decide, wIn 231 (by decide +kernel) rfl, inW3, rfl, rfl, tyX3_ok, nmX3, fun _ => rfl⟩
theorem f_RX3_33 : wF RX3 33 3 7 := ⟨RX3, TX3, 20, rfl, by decide, wIn 232 (by decide +kernel) rfl, inW3⟩
theorem p_RX3_33 : wFP RX3 33 3 7 false (.int) := ⟨RX3, TX3, 20, tyX3, rfl, by decide, wIn 232 (by decide +kernel) rfl, inW3, rfl, rfl, tyX3_ok, nmX3, fun _ => rfl⟩
theorem f_RX3_36 : wF RX3 36 3 8 := ⟨RX3, TX3, 20, rfl, by decide, wIn 234 (by decide +kernel) rfl, inW3⟩
theorem p_RX3_36 : wFP RX3 36 3 8 false (.int) := ⟨RX3, TX3, 20, tyX3, rfl, by decide, wIn 234 (by decide +kernel) rfl, inW3, rfl, rfl, tyX3_ok, nmX3, fun _ => rfl⟩
theorem f_RX3_39 : wF RX3 39 3 9 := ⟨RX3, TX3, 20, rfl, by decide, wIn 236 (by decide +kernel) rfl, inW3⟩
theorem p_RX3_39 : wFP RX3 39 3 9 false (.boolean) := ⟨RX3, TX3, 20, tyX3, rfl, by decide, wIn 236 (by decide +kernel) rfl, inW3, rfl, rfl, tyX3_ok, nmX3, fun _ => rfl⟩
theorem f_RX3_43 : wF RX3 43 3 10 := ⟨RX3, TX3, 20, rfl, by decide, wIn 238 (by decide +kernel) rfl, inW3⟩
theorem p_RX3_43 : wFP RX3 43 3 10 false (.int) := ⟨RX3, TX3, 20, tyX3, rfl, by decide, wIn 238 (by decide +kernel) rfl, inW3, rfl, rfl, tyX3_ok, nmX3, fun _ => rfl⟩
theorem f_RX3_46 : wF RX3 46 3 11 := ⟨RX3, TX3, 20, rfl, by decide, wIn 240 (by decide +kernel) rfl, inW3⟩
theorem p_RX3_46 : wFP RX3 46 3 11 false (.int) := ⟨RX3, TX3, 20, tyX3, rfl, by decide, wIn 240 (by decide +kernel) rfl, inW3, rfl, rfl, tyX3_ok, nmX3, fun _ => rfl⟩
theorem f_RX3_49 : wF RX3 49 3 12 := ⟨RX3, TX3, 20, rfl, by decide, wIn 242 (by decide +kernel) rfl, inW3⟩
theorem p_RX3_49 : wFP RX3 49 3 12 false (.int) := ⟨RX3, TX3, 20, tyX3, rfl, by decide, wIn 242 (by decide +kernel) rfl, inW3, rfl, rfl, tyX3_ok, nmX3, fun _ => rfl⟩
theorem f_RX3_52 : wF RX3 52 3 13 := ⟨RX3, TX3, 20, rfl, by decide, wIn 245 (by decide +kernel) rfl, inW3⟩
theorem p_RX3_52 : wFP RX3 52 3 13 false (.int) := ⟨RX3, TX3, 20, tyX3, rfl, by decide, wIn 245 (by decide +kernel) rfl, inW3, rfl, rfl, tyX3_ok, nmX3, fun _ => rfl⟩
theorem f_RX3_55 : wF RX3 55 3 14 := ⟨RX3, TX3, 20, rfl, by decide, wIn 248 (by decide +kernel) rfl, inW3⟩
theorem p_RX3_55 : wFP RX3 55 3 14 false (.int) := ⟨RX3, TX3, 20, tyX3, rfl, by decide, wIn 248 (by decide +kernel) rfl, inW3, rfl, rfl, tyX3_ok, nmX3, fun _ => rfl⟩
theorem f_RX3_58 : wF RX3 58 3 15 := ⟨RX3, TX3, 20, rfl, by decide, wIn 251 (by decide +kernel) rfl, inW3⟩
theorem p_RX3_58 : wFP RX3 58 3 15 false (.int) := ⟨RX3, TX3, 20, tyX3, rfl, by decide, wIn 251 (by decide +kernel) rfl, inW3, rfl, rfl, tyX3_ok, nmX3, fun _ => rfl⟩
theorem f_RX3_61 : wF RX3 61 3 16 := ⟨RX3, TX3, 20, rfl, by decide, wIn 254 (by decide +kernel) rfl, inW3⟩
theorem p_RX3_61 : wFP RX3 61 3 16 false (.int) := ⟨RX3, TX3, 20, tyX3, rfl, by decide, wIn 254 (by decide +kernel) rfl, inW3, rfl, rfl, tyX3_ok, nmX3, fun _ => rfl⟩
theorem f_RX3_85 : wF RX3 85 3 17 := ⟨RX3, TX3, 20, rfl, by decide, wIn 256 (by decide +kernel) rfl, inW3⟩
theorem p_RX3_85 : wFP RX3 85 3 17 false (.int) := ⟨RX3, TX3, 20, tyX3, rfl, by decide, wIn 256 (by decide +kernel) rfl, inW3, rfl, rfl, tyX3_ok, nmX3, fun _ => rfl⟩
theorem f_RX3_92 : wF RX3 92 3 18 := ⟨RX3, TX3, 20, rfl, by decide, wIn 258 (by decide +kernel) rfl, inW3⟩
theorem p_RX3_92 : wFP RX3 92 3 18 false (.int) := ⟨RX3, TX3, 20, tyX3, rfl, by decide, wIn 258 (by decide +kernel) rfl, inW3, rfl, rfl, tyX3_ok, nmX3, fun _ => rfl⟩
theorem f_RX3_98 : wF RX3 98 3 19 := ⟨RX3, TX3, 20, rfl, by decide, wIn 260 (by decide +kernel) rfl, inW3⟩
theorem p_RX3_98 : wFP RX3 98 3 19 false (.int) := ⟨RX3, TX3, 20, tyX3, rfl, by decide, wIn 260 (by decide +kernel) rfl, inW3, rfl, rfl, tyX3_ok, nmX3, fun _ => rfl⟩
theorem f_RX4_11 : wF RX4 11 4 0 := ⟨RX4, TX4, 11, rfl, by decide, wIn 352 (by decide +kernel) rfl, inW4⟩
theorem p_RX4_11 : wFP RX4 11 4 0 true (.array .char) := ⟨RX4, TX4, 11, tyX4, rfl, by decide, wIn 352 (by decide +kernel) rfl, inW4, rfl, rfl, tyX4_ok, nmX4, fun _ => rfl⟩
theorem f_RX4_21 : wF RX4 21 4 1 := ⟨RX4, TX4, 11, rfl, by decide, wIn 353 (by decide +kernel) rfl, inW4⟩
theorem p_RX4_21 : wFP RX4 21 4 1 false (.int) := ⟨RX4, TX4, 11, tyX4, rfl, by decide, wIn 353 (by decide +kernel) rfl, inW4, rfl, rfl, tyX4_ok, nmX4, fun _ => rfl⟩
theorem f_RX4_25 : wF RX4 25 4 2 := ⟨RX4, TX4, 11, rfl, by decide, wIn 355 (by decide +kernel) rfl, inW4⟩
theorem p_RX4_25 : wFP RX4 25 4 2 false (.int) := ⟨RX4, TX4, 11, tyX4, rfl, by decide, wIn 355 (by decide +kernel) rfl, inW4, rfl, rfl, tyX4_ok, nmX4, fun _ => rfl⟩
theorem f_RX4_40 : wF RX4 40 4 3 := ⟨RX4, TX4, 11, rfl, by decide, wIn 357 (by decide +kernel) rfl, inW4⟩
theorem p_RX4_40 : wFP RX4 40 4 3 false (.char) := ⟨RX4, TX4, 11, tyX4, rfl, by decide, wIn 357 (by decide +kernel) rfl, inW4, rfl, rfl, tyX4_ok, nmX4, fun _ => rfl⟩
theorem f_RX4_54 : wF RX4 54 4 6 := ⟨RX4, TX4, 11, rfl, by decide, wIn 363 (by decide +kernel) rfl, inW4⟩
theorem p_RX4_54 : wFP RX4 54 4 6 false (.int) := ⟨RX4, TX4, 11, tyX4, rfl, by decide, wIn 363 (by decide +kernel) rfl, inW4, rfl, rfl, tyX4_ok, nmX4, fun _ => rfl⟩
theorem f_RX4_60 : wF RX4 60 4 4 := ⟨RX4, TX4, 11, rfl, by decide, wIn 359 (by decide +kernel) rfl, inW4⟩
theorem p_RX4_60 : wFP RX4 60 4 4 false (.int) := ⟨RX4, TX4, 11, tyX4, rfl, by decide, wIn 359 (by decide +kernel) rfl, inW4, rfl, rfl, tyX4_ok, nmX4, fun _ => rfl⟩
theorem f_RX4_63 : wF RX4 63 4 5 := ⟨RX4, TX4, 11, rfl, by decide, wIn 361 (by decide +kernel) rfl, inW4⟩
theorem p_RX4_63 : wFP RX4 63 4 5 false (.int) := ⟨RX4, TX4, 11, tyX4, rfl, by decide, wIn 361 (by decide +kernel) rfl, inW4, rfl, rfl, tyX4_ok, nmX4, fun _ => rfl⟩
theorem f_RX4_72 : wF RX4 72 4 7 := ⟨RX4, TX4, 11, rfl, by decide, wIn 365 (by decide +kernel) rfl, inW4⟩
theorem p_RX4_72 : wFP RX4 72 4 7 false (.int) := ⟨RX4, TX4, 11, tyX4, rfl, by decide, wIn 365 (by decide +kernel) rfl, inW4, rfl, rfl, tyX4_ok, nmX4, fun _ => rfl⟩
theorem f_RX4_75 : wF RX4 75 4 8 := ⟨RX4, TX4, 11, rfl, by decide, wIn 367 (by decide +kernel) rfl, inW4⟩
theorem p_RX4_75 : wFP RX4 75 4 8 false (.int) := ⟨RX4, TX4, 11, tyX4, rfl, by decide, wIn 367 (by decide +kernel) rfl, inW4, rfl, rfl, tyX4_ok, nmX4, fun _ => rfl⟩
theorem f_RX4_78 : wF RX4 78 4 9 := ⟨RX4, TX4, 11, rfl, by decide, wIn 369 (by decide +kernel) rfl, inW4⟩
theorem p_RX4_78 : wFP RX4 78 4 9 false (.int) := ⟨RX4, TX4, 11, tyX4, rfl, by decide, wIn 369 (by decide +kernel) rfl, inW4, rfl, rfl, tyX4_ok, nmX4, fun _ => rfl⟩
theorem f_RX4_83 : wF RX4 83 4 10 := ⟨RX4, TX4, 11, rfl, by decide, wIn 371 (by decide +kernel) rfl, inW4⟩
theorem p_RX4_83 : wFP RX4 83 4 10 false (.int) := ⟨RX4, TX4, 11, tyX4, rfl, by decide, wIn 371 (by decide +kernel) rfl, inW4, rfl, rfl, tyX4_ok, nmX4, fun _ => rfl⟩
theorem f_RX5_13 : wF RX5 13 5 0 := ⟨RX5, TX5, 3, rfl, by decide, wIn 143 (by decide +kernel) rfl, inW5⟩
theorem p_RX5_13 : wFP RX5 13 5 0 true (.array (.array .int)) := ⟨RX5, TX5, 3, tyX5, rfl, by decide, wIn 143 (by decide +kernel) rfl, inW5, rfl, rfl, tyX5_ok, nmX5, fun _ => rfl⟩
theorem f_RX5_16 : wF RX5 16 5 1 := ⟨RX5, TX5, 3, rfl, by decide, wIn 146 (by decide +kernel) rfl, inW5⟩
theorem p_RX5_16 : wFP RX5 16 5 1 false (.int) := ⟨RX5, TX5, 3, tyX5, rfl, by decide, wIn 146 (by decide +kernel) rfl, inW5, rfl, rfl, tyX5_ok, nmX5, fun _ => rfl⟩
theorem f_RX5_20 : wF RX5 20 5 2 := ⟨RX5, TX5, 3, rfl, by decide, wIn 147 (by decide +kernel) rfl, inW5⟩
theorem p_RX5_20 : wFP RX5 20 5 2 false (.int) := ⟨RX5, TX5, 3, tyX5, rfl, by decide, wIn 147 (by decide +kernel) rfl, inW5, rfl, rfl, tyX5_ok, nmX5, fun _ => rfl⟩
theorem f_RX7_7 : wF RX7 7 7 0 := ⟨RX7, TX7, 21, rfl, by decide, wIn 984 (by decide +kernel) rfl, inW7⟩
theorem p_RX7_7 : wFP RX7 7 7 0 true (.array .long) := ⟨RX7, TX7, 21, tyX7, rfl, by decide, wIn 984 (by decide +kernel) rfl, inW7, rfl, rfl, tyX7_ok, nmX7, fun _ => rfl⟩
theorem f_RX7_13 : wF RX7 13 7 1 := ⟨RX7, TX7, 21, rfl, by decide, wIn 985 (by decide +kernel) rfl, inW7⟩
theorem p_RX7_13 : wFP RX7 13 7 1 true (.array .double) := ⟨RX7, TX7, 21, tyX7, rfl, by decide, wIn 985 (by decide +kernel) rfl, inW7, rfl, rfl, tyX7_ok, nmX7, fun _ => rfl⟩
theorem f_RX7_17 : wF RX7 17 7 2 := ⟨RX7, TX7, 21, rfl, by decide, wIn 986 (by decide +kernel) rfl, inW7⟩
theorem p_RX7_17 : wFP RX7 17 7 2 true (.array .long) := ⟨RX7, TX7, 21, tyX7, rfl, by decide, wIn 986 (by decide +kernel) rfl, inW7, rfl, rfl, tyX7_ok, nmX7, fun _ => rfl⟩
theorem f_RX7_20 : wF RX7 20 7 3 := ⟨RX7, TX7, 21, rfl, by decide, wIn 987 (by decide +kernel) rfl, inW7⟩
theorem p_RX7_20 : wFP RX7 20 7 3 true (.array .long) := ⟨RX7, TX7, 21, tyX7, rfl, by decide, wIn 987 (by decide +kernel) rfl, inW7, rfl, rfl, tyX7_ok, nmX7, fun _ => rfl⟩
theorem f_RX7_23 : wF RX7 23 7 4 := ⟨RX7, TX7, 21, rfl, by decide, wIn 988 (by decide +kernel) rfl, inW7⟩
theorem p_RX7_23 : wFP RX7 23 7 4 true (.array .double) := ⟨RX7, TX7, 21, tyX7, rfl, by decide, wIn 988 (by decide +kernel) rfl, inW7, rfl, rfl, tyX7_ok, nmX7, fun _ => rfl⟩
theorem f_RX7_27 : wF RX7 27 7 5 := ⟨RX7, TX7, 21, rfl, by decide, wIn 989 (by decide +kernel) rfl, inW7⟩
theorem p_RX7_27 : wFP RX7 27 7 5 true (.array .long) := ⟨RX7, TX7, 21, tyX7, rfl, by decide, wIn 989 (by decide +kernel) rfl, inW7, rfl, rfl, tyX7_ok, nmX7, fun _ => rfl⟩
theorem f_RX7_30 : wF RX7 30 7 6 := ⟨RX7, TX7, 21, rfl, by decide, wIn 990 (by decide +kernel) rfl, inW7⟩
theorem p_RX7_30 : wFP RX7 30 7 6 true (.array .int) := ⟨RX7, TX7, 21, tyX7, rfl, by decide, wIn 990 (by decide +kernel) rfl, inW7, rfl, rfl, tyX7_ok, nmX7, fun _ => rfl⟩
theorem f_RX7_34 : wF RX7 34 7 9 := ⟨RX7, TX7, 21, rfl, by decide, wIn 993 (by decide +kernel) rfl, inW7⟩
theorem p_RX7_34 : wFP RX7 34 7 9 true (.array .int) := ⟨RX7, TX7, 21, tyX7, rfl, by decide, wIn 993 (by decide +kernel) rfl, inW7, rfl, rfl, tyX7_ok, nmX7, fun _ => rfl⟩
theorem f_RX7_52 : wF RX7 52 7 7 := ⟨RX7, TX7, 21, rfl, by decide, wIn 991 (by decide +kernel) rfl, inW7⟩
theorem p_RX7_52 : wFP RX7 52 7 7 false (.int) := ⟨RX7, TX7, 21, tyX7, rfl, by decide, wIn 991 (by decide +kernel) rfl, inW7, rfl, rfl, tyX7_ok, nmX7, fun _ => rfl⟩
theorem f_RX7_241 : wF RX7 241 7 8 := ⟨RX7, TX7, 21, rfl, by decide, wIn 992 (by decide +kernel) rfl, inW7⟩
theorem p_RX7_241 : wFP RX7 241 7 8 false (.int) := ⟨RX7, TX7, 21, tyX7, rfl, by decide, wIn 992 (by decide +kernel) rfl, inW7, rfl, rfl, tyX7_ok, nmX7, fun _ => rfl⟩
theorem f_RX7_298 : wF RX7 298 7 10 := ⟨RX7, TX7, 21, rfl, by decide, wIn 994 (by decide +kernel) rfl, inW7⟩
theorem p_RX7_298 : wFP RX7 298 7 10 false (.int) := ⟨RX7, TX7, 21, tyX7, rfl, by decide, wIn 994 (by decide +kernel) rfl, inW7, rfl, rfl, tyX7_ok, nmX7, fun _ => rfl⟩
theorem f_RX7_313 : wF RX7 313 7 11 := ⟨RX7, TX7, 21, rfl, by decide, wIn 995 (by decide +kernel) rfl, inW7⟩
theorem p_RX7_313 : wFP RX7 313 7 11 false (.int) := ⟨RX7, TX7, 21, tyX7, rfl, by decide, wIn 995 (by decide +kernel) rfl, inW7, rfl, rfl, tyX7_ok, nmX7, fun _ => rfl⟩
theorem f_RX7_316 : wF RX7 316 7 12 := ⟨RX7, TX7, 21, rfl, by decide, wIn 996 (by decide +kernel) rfl, inW7⟩
theorem p_RX7_316 : wFP RX7 316 7 12 false (.int) := ⟨RX7, TX7, 21, tyX7, rfl, by decide, wIn 996 (by decide +kernel) rfl, inW7, rfl, rfl, tyX7_ok, nmX7, fun _ => rfl⟩
theorem f_RX7_331 : wF RX7 331 7 14 := ⟨RX7, TX7, 21, rfl, by decide, wIn 998 (by decide +kernel) rfl, inW7⟩
theorem p_RX7_331 : wFP RX7 331 7 14 false (.int) := ⟨RX7, TX7, 21, tyX7, rfl, by decide, wIn 998 (by decide +kernel) rfl, inW7, rfl, rfl, tyX7_ok, nmX7, fun _ => rfl⟩
theorem f_RX7_334 : wF RX7 334 7 15 := ⟨RX7, TX7, 21, rfl, by decide, wIn 999 (by decide +kernel) rfl, inW7⟩
theorem p_RX7_334 : wFP RX7 334 7 15 false (.int) := ⟨RX7, TX7, 21, tyX7, rfl, by decide, wIn 999 (by decide +kernel) rfl, inW7, rfl, rfl, tyX7_ok, nmX7, fun _ => rfl⟩
theorem f_RX7_341 : wF RX7 341 7 20 := ⟨RX7, TX7, 21, rfl, by decide, wIn 1004 (by decide +kernel) rfl, inW7⟩
theorem p_RX7_341 : wFP RX7 341 7 20 false (.int) := ⟨RX7, TX7, 21, tyX7, rfl, by decide, wIn 1004 (by decide +kernel) rfl, inW7, rfl, rfl, tyX7_ok, nmX7, fun _ => rfl⟩
theorem f_RX7_350 : wF RX7 350 7 16 := ⟨RX7, TX7, 21, rfl, by decide, wIn 1000 (by decide +kernel) rfl, inW7⟩
theorem p_RX7_350 : wFP RX7 350 7 16 false (.int) := ⟨RX7, TX7, 21, tyX7, rfl, by decide, wIn 1000 (by decide +kernel) rfl, inW7, rfl, rfl, tyX7_ok, nmX7, fun _ => rfl⟩
theorem f_RX7_353 : wF RX7 353 7 17 := ⟨RX7, TX7, 21, rfl, by decide, wIn 1001 (by decide +kernel) rfl, inW7⟩
theorem p_RX7_353 : wFP RX7 353 7 17 false (.int) := ⟨RX7, TX7, 21, tyX7, rfl, by decide, wIn 1001 (by decide +kernel) rfl, inW7, rfl, rfl, tyX7_ok, nmX7, fun _ => rfl⟩
theorem f_RX7_356 : wF RX7 356 7 18 := ⟨RX7, TX7, 21, rfl, by decide, wIn 1002 (by decide +kernel) rfl, inW7⟩
theorem p_RX7_356 : wFP RX7 356 7 18 false (.int) := ⟨RX7, TX7, 21, tyX7, rfl, by decide, wIn 1002 (by decide +kernel) rfl, inW7, rfl, rfl, tyX7_ok, nmX7, fun _ => rfl⟩
theorem f_RX7_359 : wF RX7 359 7 19 := ⟨RX7, TX7, 21, rfl, by decide, wIn 1003 (by decide +kernel) rfl, inW7⟩
theorem p_RX7_359 : wFP RX7 359 7 19 false (.int) := ⟨RX7, TX7, 21, tyX7, rfl, by decide, wIn 1003 (by decide +kernel) rfl, inW7, rfl, rfl, tyX7_ok, nmX7, fun _ => rfl⟩
theorem f_RX7_365 : wF RX7 365 7 13 := ⟨RX7, TX7, 21, rfl, by decide, wIn 997 (by decide +kernel) rfl, inW7⟩
theorem p_RX7_365 : wFP RX7 365 7 13 false (.int) := ⟨RX7, TX7, 21, tyX7, rfl, by decide, wIn 997 (by decide +kernel) rfl, inW7, rfl, rfl, tyX7_ok, nmX7, fun _ => rfl⟩
theorem b_yX2_init : wLB yX2_init cX2_init 2 (none) 0 := ⟨wIn 83 (by decide +kernel) rfl, wIn 110 (by decide +kernel) rfl, by decide +kernel, by decide +kernel, rfl, by decide, by decide +kernel⟩
theorem x_yX2_init : wLI yX2_init := ⟨rfl, wIn 109 (by decide +kernel) rfl⟩
theorem k_RX6_11 : wLk RX6 11 yX2_init := wIn 108 (by decide +kernel) rfl
theorem b_yX6_remember : wLB yX6_remember cX6_remember 1 (none) 0 := ⟨wIn 82 (by decide +kernel) rfl, wIn 430 (by decide +kernel) rfl, by decide +kernel, by decide +kernel, rfl, by decide, by decide +kernel⟩
theorem x_yX6_remember : wLV yX6_remember := ⟨wIn 429 (by decide +kernel) rfl, wIn 0 (by decide +kernel) rfl⟩
theorem k_RX6_37 : wLk RX6 37 yX6_remember := wIn 427 (by decide +kernel) rfl
theorem b_yX2_replaceSetting : wLB yX2_replaceSetting cX2_replaceSetting 4 (some .int) 2 := ⟨wIn 83 (by decide +kernel) rfl, wIn 480 (by decide +kernel) rfl, by decide +kernel, by decide +kernel, rfl, by decide, by decide +kernel⟩
theorem x_yX2_replaceSetting : wLV yX2_replaceSetting := ⟨wIn 478 (by decide +kernel) rfl, wIn 479 (by decide +kernel) rfl⟩
theorem k_RX6_40 : wLk RX6 40 yX2_replaceSetting := wIn 477 (by decide +kernel) rfl
theorem b_yX6_recorded : wLB yX6_recorded cX6_recorded 2 (some .int) 1 := ⟨wIn 82 (by decide +kernel) rfl, wIn 495 (by decide +kernel) rfl, by decide +kernel, by decide +kernel, rfl, by decide, by decide +kernel⟩
theorem x_yX6_recorded : wLV yX6_recorded := ⟨wIn 494 (by decide +kernel) rfl, wIn 3 (by decide +kernel) rfl⟩
theorem k_RX6_44 : wLk RX6 44 yX6_recorded := wIn 492 (by decide +kernel) rfl
theorem b_yX1_mark : wLB yX1_mark cX1_mark 3 (some .int) 2 := ⟨wIn 84 (by decide +kernel) rfl, wIn 507 (by decide +kernel) rfl, by decide +kernel, by decide +kernel, rfl, by decide, by decide +kernel⟩
theorem x_yX1_mark : wLV yX1_mark := ⟨wIn 505 (by decide +kernel) rfl, wIn 506 (by decide +kernel) rfl⟩
theorem k_RX6_52 : wLk RX6 52 yX1_mark := wIn 504 (by decide +kernel) rfl
theorem b_yX2_addAccount : wLB yX2_addAccount cX2_addAccount 3 (some .int) 2 := ⟨wIn 83 (by decide +kernel) rfl, wIn 520 (by decide +kernel) rfl, by decide +kernel, by decide +kernel, rfl, by decide, by decide +kernel⟩
theorem x_yX2_addAccount : wLV yX2_addAccount := ⟨wIn 518 (by decide +kernel) rfl, wIn 519 (by decide +kernel) rfl⟩
theorem k_RX6_57 : wLk RX6 57 yX2_addAccount := wIn 517 (by decide +kernel) rfl
theorem b_yX2_nameFeeder : wLB yX2_nameFeeder cX2_nameFeeder 4 (some .int) 2 := ⟨wIn 83 (by decide +kernel) rfl, wIn 533 (by decide +kernel) rfl, by decide +kernel, by decide +kernel, rfl, by decide, by decide +kernel⟩
theorem x_yX2_nameFeeder : wLV yX2_nameFeeder := ⟨wIn 531 (by decide +kernel) rfl, wIn 532 (by decide +kernel) rfl⟩
theorem k_RX6_60 : wLk RX6 60 yX2_nameFeeder := wIn 530 (by decide +kernel) rfl
theorem b_yX2_payIn : wLB yX2_payIn cX2_payIn 3 (some .int) 2 := ⟨wIn 83 (by decide +kernel) rfl, wIn 545 (by decide +kernel) rfl, by decide +kernel, by decide +kernel, rfl, by decide, by decide +kernel⟩
theorem x_yX2_payIn : wLV yX2_payIn := ⟨wIn 543 (by decide +kernel) rfl, wIn 544 (by decide +kernel) rfl⟩
theorem k_RX6_63 : wLk RX6 63 yX2_payIn := wIn 542 (by decide +kernel) rfl
theorem b_yX2_addOrder : wLB yX2_addOrder cX2_addOrder 8 (some .int) 6 := ⟨wIn 83 (by decide +kernel) rfl, wIn 554 (by decide +kernel) rfl, by decide +kernel, by decide +kernel, rfl, by decide, by decide +kernel⟩
theorem x_yX2_addOrder : wLV yX2_addOrder := ⟨wIn 552 (by decide +kernel) rfl, wIn 553 (by decide +kernel) rfl⟩
theorem k_RX6_66 : wLk RX6 66 yX2_addOrder := wIn 551 (by decide +kernel) rfl
theorem b_yX2_alterOrder : wLB yX2_alterOrder cX2_alterOrder 5 (some .int) 3 := ⟨wIn 83 (by decide +kernel) rfl, wIn 612 (by decide +kernel) rfl, by decide +kernel, by decide +kernel, rfl, by decide, by decide +kernel⟩
theorem x_yX2_alterOrder : wLV yX2_alterOrder := ⟨wIn 610 (by decide +kernel) rfl, wIn 611 (by decide +kernel) rfl⟩
theorem k_RX6_70 : wLk RX6 70 yX2_alterOrder := wIn 609 (by decide +kernel) rfl
theorem b_yX2_stopOrder : wLB yX2_stopOrder cX2_stopOrder 2 (some .int) 1 := ⟨wIn 83 (by decide +kernel) rfl, wIn 624 (by decide +kernel) rfl, by decide +kernel, by decide +kernel, rfl, by decide, by decide +kernel⟩
theorem x_yX2_stopOrder : wLV yX2_stopOrder := ⟨wIn 622 (by decide +kernel) rfl, wIn 623 (by decide +kernel) rfl⟩
theorem k_RX6_74 : wLk RX6 74 yX2_stopOrder := wIn 621 (by decide +kernel) rfl
theorem b_yX2_resumeOrder : wLB yX2_resumeOrder cX2_resumeOrder 2 (some .int) 1 := ⟨wIn 83 (by decide +kernel) rfl, wIn 632 (by decide +kernel) rfl, by decide +kernel, by decide +kernel, rfl, by decide, by decide +kernel⟩
theorem x_yX2_resumeOrder : wLV yX2_resumeOrder := ⟨wIn 630 (by decide +kernel) rfl, wIn 631 (by decide +kernel) rfl⟩
theorem k_RX6_77 : wLk RX6 77 yX2_resumeOrder := wIn 629 (by decide +kernel) rfl
theorem b_yX2_dropPayment : wLB yX2_dropPayment cX2_dropPayment 2 (some .int) 1 := ⟨wIn 83 (by decide +kernel) rfl, wIn 640 (by decide +kernel) rfl, by decide +kernel, by decide +kernel, rfl, by decide, by decide +kernel⟩
theorem x_yX2_dropPayment : wLV yX2_dropPayment := ⟨wIn 638 (by decide +kernel) rfl, wIn 639 (by decide +kernel) rfl⟩
theorem k_RX6_80 : wLk RX6 80 yX2_dropPayment := wIn 637 (by decide +kernel) rfl
theorem b_yX2_errorOfDays : wLB yX2_errorOfDays cX2_errorOfDays 2 (some .int) 1 := ⟨wIn 83 (by decide +kernel) rfl, wIn 656 (by decide +kernel) rfl, by decide +kernel, by decide +kernel, rfl, by decide, by decide +kernel⟩
theorem x_yX2_errorOfDays : wLV yX2_errorOfDays := ⟨wIn 654 (by decide +kernel) rfl, wIn 655 (by decide +kernel) rfl⟩
theorem k_RX6_83 : wLk RX6 83 yX2_errorOfDays := wIn 653 (by decide +kernel) rfl
theorem b_yX2_passDays : wLB yX2_passDays cX2_passDays 4 (some .int) 2 := ⟨wIn 83 (by decide +kernel) rfl, wIn 660 (by decide +kernel) rfl, by decide +kernel, by decide +kernel, rfl, by decide, by decide +kernel⟩
theorem x_yX2_passDays : wLV yX2_passDays := ⟨wIn 658 (by decide +kernel) rfl, wIn 659 (by decide +kernel) rfl⟩
theorem k_RX6_86 : wLk RX6 86 yX2_passDays := wIn 657 (by decide +kernel) rfl
theorem b_yX6_isBetween : wLB yX6_isBetween cX6_isBetween 3 (some .boolean) 3 := ⟨wIn 82 (by decide +kernel) rfl, wIn 483 (by decide +kernel) rfl, by decide +kernel, by decide +kernel, rfl, by decide, by decide +kernel⟩
theorem x_yX6_isBetween : wLS yX6_isBetween := wIn 482 (by decide +kernel) rfl
theorem k_RX6_93 : wLk RX6 93 yX6_isBetween := wIn 499 (by decide +kernel) rfl
theorem b_yX1_numberOf : wLB yX1_numberOf cX1_numberOf 3 (some .int) 2 := ⟨wIn 84 (by decide +kernel) rfl, wIn 722 (by decide +kernel) rfl, by decide +kernel, by decide +kernel, rfl, by decide, by decide +kernel⟩
theorem x_yX1_numberOf : wLV yX1_numberOf := ⟨wIn 720 (by decide +kernel) rfl, wIn 721 (by decide +kernel) rfl⟩
theorem k_RX6_97 : wLk RX6 97 yX1_numberOf := wIn 719 (by decide +kernel) rfl
theorem b_yX2_hasAccount : wLB yX2_hasAccount cX2_hasAccount 2 (some .boolean) 1 := ⟨wIn 83 (by decide +kernel) rfl, wIn 537 (by decide +kernel) rfl, by decide +kernel, by decide +kernel, rfl, by decide, by decide +kernel⟩
theorem x_yX2_hasAccount : wLV yX2_hasAccount := ⟨wIn 535 (by decide +kernel) rfl, wIn 536 (by decide +kernel) rfl⟩
theorem k_RX6_100 : wLk RX6 100 yX2_hasAccount := wIn 732 (by decide +kernel) rfl
theorem b_yX0_sumOf : wLB yX0_sumOf cX0_sumOf 2 (some .long) 1 := ⟨wIn 86 (by decide +kernel) rfl, wIn 737 (by decide +kernel) rfl, by decide +kernel, by decide +kernel, rfl, by decide, by decide +kernel⟩
theorem x_yX0_sumOf : wLV yX0_sumOf := ⟨wIn 735 (by decide +kernel) rfl, wIn 736 (by decide +kernel) rfl⟩
theorem k_RX6_110 : wLk RX6 110 yX0_sumOf := wIn 734 (by decide +kernel) rfl
theorem b_yX6_bitsOf : wLB yX6_bitsOf cX6_bitsOf 7 (some .long) 1 := ⟨wIn 82 (by decide +kernel) rfl, wIn 745 (by decide +kernel) rfl, by decide +kernel, by decide +kernel, rfl, by decide, by decide +kernel⟩
theorem x_yX6_bitsOf : wLS yX6_bitsOf := wIn 744 (by decide +kernel) rfl
theorem k_RX6_120 : wLk RX6 120 yX6_bitsOf := wIn 743 (by decide +kernel) rfl
theorem b_yX2_hasOrder : wLB yX2_hasOrder cX2_hasOrder 2 (some .boolean) 1 := ⟨wIn 83 (by decide +kernel) rfl, wIn 616 (by decide +kernel) rfl, by decide +kernel, by decide +kernel, rfl, by decide, by decide +kernel⟩
theorem x_yX2_hasOrder : wLV yX2_hasOrder := ⟨wIn 614 (by decide +kernel) rfl, wIn 615 (by decide +kernel) rfl⟩
theorem k_RX6_124 : wLk RX6 124 yX2_hasOrder := wIn 753 (by decide +kernel) rfl
theorem b_yX2_nextNominalDay : wLB yX2_nextNominalDay cX2_nextNominalDay 2 (some .int) 1 := ⟨wIn 83 (by decide +kernel) rfl, wIn 757 (by decide +kernel) rfl, by decide +kernel, by decide +kernel, rfl, by decide, by decide +kernel⟩
theorem x_yX2_nextNominalDay : wLV yX2_nextNominalDay := ⟨wIn 755 (by decide +kernel) rfl, wIn 756 (by decide +kernel) rfl⟩
theorem k_RX6_127 : wLk RX6 127 yX2_nextNominalDay := wIn 754 (by decide +kernel) rfl
theorem b_yX3_numberOf : wLB yX3_numberOf cX3_numberOf 2 (some .int) 1 := ⟨wIn 87 (by decide +kernel) rfl, wIn 761 (by decide +kernel) rfl, by decide +kernel, by decide +kernel, rfl, by decide, by decide +kernel⟩
theorem x_yX3_numberOf : wLV yX3_numberOf := ⟨wIn 759 (by decide +kernel) rfl, wIn 760 (by decide +kernel) rfl⟩
theorem k_RX6_134 : wLk RX6 134 yX3_numberOf := wIn 758 (by decide +kernel) rfl
theorem b_yX2_numberOf : wLB yX2_numberOf cX2_numberOf 2 (some .int) 1 := ⟨wIn 83 (by decide +kernel) rfl, wIn 773 (by decide +kernel) rfl, by decide +kernel, by decide +kernel, rfl, by decide, by decide +kernel⟩
theorem x_yX2_numberOf : wLV yX2_numberOf := ⟨wIn 771 (by decide +kernel) rfl, wIn 772 (by decide +kernel) rfl⟩
theorem k_RX6_157 : wLk RX6 157 yX2_numberOf := wIn 770 (by decide +kernel) rfl
theorem b_yX3_dateBehindNext : wLB yX3_dateBehindNext cX3_dateBehindNext 4 (some .int) 2 := ⟨wIn 87 (by decide +kernel) rfl, wIn 786 (by decide +kernel) rfl, by decide +kernel, by decide +kernel, rfl, by decide, by decide +kernel⟩
theorem x_yX3_dateBehindNext : wLV yX3_dateBehindNext := ⟨wIn 784 (by decide +kernel) rfl, wIn 785 (by decide +kernel) rfl⟩
theorem k_RX6_158 : wLk RX6 158 yX3_dateBehindNext := wIn 783 (by decide +kernel) rfl
theorem b_yX1_shifted : wLB yX1_shifted cX1_shifted 4 (some .int) 2 := ⟨wIn 84 (by decide +kernel) rfl, wIn 598 (by decide +kernel) rfl, by decide +kernel, by decide +kernel, rfl, by decide, by decide +kernel⟩
theorem x_yX1_shifted : wLV yX1_shifted := ⟨wIn 596 (by decide +kernel) rfl, wIn 597 (by decide +kernel) rfl⟩
theorem k_RX6_162 : wLk RX6 162 yX1_shifted := wIn 791 (by decide +kernel) rfl
theorem b_yX2_copyFrom : wLB yX2_copyFrom cX2_copyFrom 3 (none) 1 := ⟨wIn 83 (by decide +kernel) rfl, wIn 438 (by decide +kernel) rfl, by decide +kernel, by decide +kernel, rfl, by decide, by decide +kernel⟩
theorem x_yX2_copyFrom : wLV yX2_copyFrom := ⟨wIn 436 (by decide +kernel) rfl, wIn 437 (by decide +kernel) rfl⟩
theorem k_RX6_167 : wLk RX6 167 yX2_copyFrom := wIn 435 (by decide +kernel) rfl
theorem b_yX4_append : wLB yX4_append cX4_append 7 (some .int) 1 := ⟨wIn 88 (by decide +kernel) rfl, wIn 817 (by decide +kernel) rfl, by decide +kernel, by decide +kernel, rfl, by decide, by decide +kernel⟩
theorem x_yX4_append : wLV yX4_append := ⟨wIn 815 (by decide +kernel) rfl, wIn 816 (by decide +kernel) rfl⟩
theorem k_RX6_187 : wLk RX6 187 yX4_append := wIn 814 (by decide +kernel) rfl
theorem b_yX4_isSound : wLB yX4_isSound cX4_isSound 2 (some .boolean) 0 := ⟨wIn 88 (by decide +kernel) rfl, wIn 831 (by decide +kernel) rfl, by decide +kernel, by decide +kernel, rfl, by decide, by decide +kernel⟩
theorem x_yX4_isSound : wLV yX4_isSound := ⟨wIn 829 (by decide +kernel) rfl, wIn 830 (by decide +kernel) rfl⟩
theorem k_RX6_191 : wLk RX6 191 yX4_isSound := wIn 828 (by decide +kernel) rfl
theorem b_yX4_readAct : wLB yX4_readAct cX4_readAct 1 (some .boolean) 0 := ⟨wIn 88 (by decide +kernel) rfl, wIn 835 (by decide +kernel) rfl, by decide +kernel, by decide +kernel, rfl, by decide, by decide +kernel⟩
theorem x_yX4_readAct : wLV yX4_readAct := ⟨wIn 833 (by decide +kernel) rfl, wIn 834 (by decide +kernel) rfl⟩
theorem k_RX6_198 : wLk RX6 198 yX4_readAct := wIn 956 (by decide +kernel) rfl
theorem b_yX4_takes : wLB yX4_takes cX4_takes 2 (some .boolean) 1 := ⟨wIn 88 (by decide +kernel) rfl, wIn 940 (by decide +kernel) rfl, by decide +kernel, by decide +kernel, rfl, by decide, by decide +kernel⟩
theorem x_yX4_takes : wLV yX4_takes := ⟨wIn 938 (by decide +kernel) rfl, wIn 939 (by decide +kernel) rfl⟩
theorem k_RX6_201 : wLk RX6 201 yX4_takes := wIn 957 (by decide +kernel) rfl
theorem b_yX6_perform : wLB yX6_perform cX6_perform 3 (some .int) 1 := ⟨wIn 82 (by decide +kernel) rfl, wIn 961 (by decide +kernel) rfl, by decide +kernel, by decide +kernel, rfl, by decide, by decide +kernel⟩
theorem x_yX6_perform : wLV yX6_perform := ⟨wIn 960 (by decide +kernel) rfl, wIn 20 (by decide +kernel) rfl⟩
theorem k_RX6_205 : wLk RX6 205 yX6_perform := wIn 958 (by decide +kernel) rfl
theorem b_yX6_isError : wLB yX6_isError cX6_isError 1 (some .boolean) 1 := ⟨wIn 82 (by decide +kernel) rfl, wIn 498 (by decide +kernel) rfl, by decide +kernel, by decide +kernel, rfl, by decide, by decide +kernel⟩
theorem x_yX6_isError : wLS yX6_isError := wIn 497 (by decide +kernel) rfl
theorem k_RX6_209 : wLk RX6 209 yX6_isError := wIn 496 (by decide +kernel) rfl
theorem b_yX6_rowBehindLatest : wLB yX6_rowBehindLatest cX6_rowBehindLatest 1 (some .int) 0 := ⟨wIn 82 (by decide +kernel) rfl, wIn 434 (by decide +kernel) rfl, by decide +kernel, by decide +kernel, rfl, by decide, by decide +kernel⟩
theorem x_yX6_rowBehindLatest : wLV yX6_rowBehindLatest := ⟨wIn 433 (by decide +kernel) rfl, wIn 1 (by decide +kernel) rfl⟩
theorem k_RX6_212 : wLk RX6 212 yX6_rowBehindLatest := wIn 431 (by decide +kernel) rfl
theorem b_yX1_isBusiness : wLB yX1_isBusiness cX1_isBusiness 2 (some .boolean) 1 := ⟨wIn 84 (by decide +kernel) rfl, wIn 594 (by decide +kernel) rfl, by decide +kernel, by decide +kernel, rfl, by decide, by decide +kernel⟩
theorem x_yX1_isBusiness : wLV yX1_isBusiness := ⟨wIn 592 (by decide +kernel) rfl, wIn 593 (by decide +kernel) rfl⟩
theorem k_RX1_32 : wLk RX1 32 yX1_isBusiness := wIn 591 (by decide +kernel) rfl
theorem b_yX1_lastBusiness : wLB yX1_lastBusiness cX1_lastBusiness 3 (some .int) 1 := ⟨wIn 84 (by decide +kernel) rfl, wIn 590 (by decide +kernel) rfl, by decide +kernel, by decide +kernel, rfl, by decide, by decide +kernel⟩
theorem x_yX1_lastBusiness : wLV yX1_lastBusiness := ⟨wIn 588 (by decide +kernel) rfl, wIn 589 (by decide +kernel) rfl⟩
theorem k_RX1_36 : wLk RX1 36 yX1_lastBusiness := wIn 599 (by decide +kernel) rfl
theorem b_yX1_nextBusiness : wLB yX1_nextBusiness cX1_nextBusiness 3 (some .int) 1 := ⟨wIn 84 (by decide +kernel) rfl, wIn 603 (by decide +kernel) rfl, by decide +kernel, by decide +kernel, rfl, by decide, by decide +kernel⟩
theorem x_yX1_nextBusiness : wLV yX1_nextBusiness := ⟨wIn 601 (by decide +kernel) rfl, wIn 602 (by decide +kernel) rfl⟩
theorem k_RX1_40 : wLk RX1 40 yX1_nextBusiness := wIn 600 (by decide +kernel) rfl
theorem b_yX1_monthOf : wLB yX1_monthOf cX1_monthOf 3 (some .int) 1 := ⟨wIn 84 (by decide +kernel) rfl, wIn 577 (by decide +kernel) rfl, by decide +kernel, by decide +kernel, rfl, by decide, by decide +kernel⟩
theorem x_yX1_monthOf : wLS yX1_monthOf := wIn 576 (by decide +kernel) rfl
theorem k_RX1_43 : wLk RX1 43 yX1_monthOf := wIn 604 (by decide +kernel) rfl
theorem b_yX1_isHoliday : wLB yX1_isHoliday cX1_isHoliday 2 (some .boolean) 1 := ⟨wIn 84 (by decide +kernel) rfl, wIn 512 (by decide +kernel) rfl, by decide +kernel, by decide +kernel, rfl, by decide, by decide +kernel⟩
theorem x_yX1_isHoliday : wLV yX1_isHoliday := ⟨wIn 510 (by decide +kernel) rfl, wIn 511 (by decide +kernel) rfl⟩
theorem k_RX1_50 : wLk RX1 50 yX1_isHoliday := wIn 509 (by decide +kernel) rfl
theorem b_yX1_weekdayOf : wLB yX1_weekdayOf cX1_weekdayOf 2 (some .int) 1 := ⟨wIn 84 (by decide +kernel) rfl, wIn 726 (by decide +kernel) rfl, by decide +kernel, by decide +kernel, rfl, by decide, by decide +kernel⟩
theorem x_yX1_weekdayOf : wLV yX1_weekdayOf := ⟨wIn 724 (by decide +kernel) rfl, wIn 725 (by decide +kernel) rfl⟩
theorem k_RX1_53 : wLk RX1 53 yX1_weekdayOf := wIn 723 (by decide +kernel) rfl
theorem b_yX1_firstDayOf : wLB yX1_firstDayOf cX1_firstDayOf 1 (some .int) 1 := ⟨wIn 84 (by decide +kernel) rfl, wIn 582 (by decide +kernel) rfl, by decide +kernel, by decide +kernel, rfl, by decide, by decide +kernel⟩
theorem x_yX1_firstDayOf : wLS yX1_firstDayOf := wIn 581 (by decide +kernel) rfl
theorem k_RX1_56 : wLk RX1 56 yX1_firstDayOf := wIn 727 (by decide +kernel) rfl
theorem b_yX1_copyFrom : wLB yX1_copyFrom cX1_copyFrom 2 (none) 1 := ⟨wIn 84 (by decide +kernel) rfl, wIn 442 (by decide +kernel) rfl, by decide +kernel, by decide +kernel, rfl, by decide, by decide +kernel⟩
theorem x_yX1_copyFrom : wLV yX1_copyFrom := ⟨wIn 440 (by decide +kernel) rfl, wIn 441 (by decide +kernel) rfl⟩
theorem k_RX2_49 : wLk RX2 49 yX1_copyFrom := wIn 439 (by decide +kernel) rfl
theorem b_yX0_copyFrom : wLB yX0_copyFrom cX0_copyFrom 2 (none) 1 := ⟨wIn 86 (by decide +kernel) rfl, wIn 449 (by decide +kernel) rfl, by decide +kernel, by decide +kernel, rfl, by decide, by decide +kernel⟩
theorem x_yX0_copyFrom : wLV yX0_copyFrom := ⟨wIn 447 (by decide +kernel) rfl, wIn 448 (by decide +kernel) rfl⟩
theorem k_RX2_56 : wLk RX2 56 yX0_copyFrom := wIn 446 (by decide +kernel) rfl
theorem b_yX3_copyFrom : wLB yX3_copyFrom cX3_copyFrom 2 (none) 1 := ⟨wIn 87 (by decide +kernel) rfl, wIn 453 (by decide +kernel) rfl, by decide +kernel, by decide +kernel, rfl, by decide, by decide +kernel⟩
theorem x_yX3_copyFrom : wLV yX3_copyFrom := ⟨wIn 451 (by decide +kernel) rfl, wIn 452 (by decide +kernel) rfl⟩
theorem k_RX2_62 : wLk RX2 62 yX3_copyFrom := wIn 450 (by decide +kernel) rfl
theorem b_yX5_copyFrom : wLB yX5_copyFrom cX5_copyFrom 3 (none) 1 := ⟨wIn 85 (by decide +kernel) rfl, wIn 457 (by decide +kernel) rfl, by decide +kernel, by decide +kernel, rfl, by decide, by decide +kernel⟩
theorem x_yX5_copyFrom : wLV yX5_copyFrom := ⟨wIn 455 (by decide +kernel) rfl, wIn 456 (by decide +kernel) rfl⟩
theorem k_RX2_65 : wLk RX2 65 yX5_copyFrom := wIn 454 (by decide +kernel) rfl
theorem b_yX2_settingOf : wLB yX2_settingOf cX2_settingOf 2 (some .int) 1 := ⟨wIn 83 (by decide +kernel) rfl, wIn 491 (by decide +kernel) rfl, by decide +kernel, by decide +kernel, rfl, by decide, by decide +kernel⟩
theorem x_yX2_settingOf : wLV yX2_settingOf := ⟨wIn 489 (by decide +kernel) rfl, wIn 490 (by decide +kernel) rfl⟩
theorem k_RX2_88 : wLk RX2 88 yX2_settingOf := wIn 488 (by decide +kernel) rfl
theorem b_yX0_open : wLB yX0_open cX0_open 3 (none) 2 := ⟨wIn 86 (by decide +kernel) rfl, wIn 525 (by decide +kernel) rfl, by decide +kernel, by decide +kernel, rfl, by decide, by decide +kernel⟩
theorem x_yX0_open : wLV yX0_open := ⟨wIn 523 (by decide +kernel) rfl, wIn 524 (by decide +kernel) rfl⟩
theorem k_RX2_93 : wLk RX2 93 yX0_open := wIn 522 (by decide +kernel) rfl
theorem k_RX2_97 : wLk RX2 97 yX2_hasAccount := wIn 534 (by decide +kernel) rfl
theorem b_yX2_areDates : wLB yX2_areDates cX2_areDates 1 (some .boolean) 1 := ⟨wIn 83 (by decide +kernel) rfl, wIn 557 (by decide +kernel) rfl, by decide +kernel, by decide +kernel, rfl, by decide, by decide +kernel⟩
theorem x_yX2_areDates : wLS yX2_areDates := wIn 556 (by decide +kernel) rfl
theorem k_RX2_112 : wLk RX2 112 yX2_areDates := wIn 555 (by decide +kernel) rfl
theorem b_yX3_begin : wLB yX3_begin cX3_begin 7 (none) 6 := ⟨wIn 87 (by decide +kernel) rfl, wIn 562 (by decide +kernel) rfl, by decide +kernel, by decide +kernel, rfl, by decide, by decide +kernel⟩
theorem x_yX3_begin : wLV yX3_begin := ⟨wIn 560 (by decide +kernel) rfl, wIn 561 (by decide +kernel) rfl⟩
theorem k_RX2_115 : wLk RX2 115 yX3_begin := wIn 559 (by decide +kernel) rfl
theorem b_yX3_leaveOutBefore : wLB yX3_leaveOutBefore cX3_leaveOutBefore 5 (some .int) 2 := ⟨wIn 87 (by decide +kernel) rfl, wIn 566 (by decide +kernel) rfl, by decide +kernel, by decide +kernel, rfl, by decide, by decide +kernel⟩
theorem x_yX3_leaveOutBefore : wLV yX3_leaveOutBefore := ⟨wIn 564 (by decide +kernel) rfl, wIn 565 (by decide +kernel) rfl⟩
theorem k_RX2_119 : wLk RX2 119 yX3_leaveOutBefore := wIn 563 (by decide +kernel) rfl
theorem k_RX2_124 : wLk RX2 124 yX2_hasOrder := wIn 613 (by decide +kernel) rfl
theorem b_yX2_settle : wLB yX2_settle cX2_settle 3 (none) 1 := ⟨wIn 83 (by decide +kernel) rfl, wIn 644 (by decide +kernel) rfl, by decide +kernel, by decide +kernel, rfl, by decide, by decide +kernel⟩
theorem x_yX2_settle : wLV yX2_settle := ⟨wIn 643 (by decide +kernel) rfl, wIn 4 (by decide +kernel) rfl⟩
theorem k_RX2_148 : wLk RX2 148 yX2_settle := wIn 641 (by decide +kernel) rfl
theorem b_yX5_dropSettled : wLB yX5_dropSettled cX5_dropSettled 4 (none) 0 := ⟨wIn 85 (by decide +kernel) rfl, wIn 648 (by decide +kernel) rfl, by decide +kernel, by decide +kernel, rfl, by decide, by decide +kernel⟩
theorem x_yX5_dropSettled : wLV yX5_dropSettled := ⟨wIn 646 (by decide +kernel) rfl, wIn 647 (by decide +kernel) rfl⟩
theorem k_RX2_152 : wLk RX2 152 yX5_dropSettled := wIn 645 (by decide +kernel) rfl
theorem b_yX3_aim : wLB yX3_aim cX3_aim 2 (none) 1 := ⟨wIn 87 (by decide +kernel) rfl, wIn 570 (by decide +kernel) rfl, by decide +kernel, by decide +kernel, rfl, by decide, by decide +kernel⟩
theorem x_yX3_aim : wLV yX3_aim := ⟨wIn 568 (by decide +kernel) rfl, wIn 569 (by decide +kernel) rfl⟩
theorem k_RX2_155 : wLk RX2 155 yX3_aim := wIn 661 (by decide +kernel) rfl
theorem b_yX2_sumOverOrders : wLB yX2_sumOverOrders cX2_sumOverOrders 4 (some .int) 1 := ⟨wIn 83 (by decide +kernel) rfl, wIn 777 (by decide +kernel) rfl, by decide +kernel, by decide +kernel, rfl, by decide, by decide +kernel⟩
theorem x_yX2_sumOverOrders : wLV yX2_sumOverOrders := ⟨wIn 776 (by decide +kernel) rfl, wIn 13 (by decide +kernel) rfl⟩
theorem k_RX2_164 : wLk RX2 164 yX2_sumOverOrders := wIn 774 (by decide +kernel) rfl
theorem k_RX2_167 : wLk RX2 167 yX3_numberOf := wIn 778 (by decide +kernel) rfl
theorem b_yX2_makePaymentsDue : wLB yX2_makePaymentsDue cX2_makePaymentsDue 4 (none) 0 := ⟨wIn 83 (by decide +kernel) rfl, wIn 665 (by decide +kernel) rfl, by decide +kernel, by decide +kernel, rfl, by decide, by decide +kernel⟩
theorem x_yX2_makePaymentsDue : wLV yX2_makePaymentsDue := ⟨wIn 664 (by decide +kernel) rfl, wIn 5 (by decide +kernel) rfl⟩
theorem k_RX2_173 : wLk RX2 173 yX2_makePaymentsDue := wIn 662 (by decide +kernel) rfl
theorem b_yX2_sweep : wLB yX2_sweep cX2_sweep 8 (none) 0 := ⟨wIn 83 (by decide +kernel) rfl, wIn 683 (by decide +kernel) rfl, by decide +kernel, by decide +kernel, rfl, by decide, by decide +kernel⟩
theorem x_yX2_sweep : wLV yX2_sweep := ⟨wIn 682 (by decide +kernel) rfl, wIn 7 (by decide +kernel) rfl⟩
theorem k_RX2_176 : wLk RX2 176 yX2_sweep := wIn 680 (by decide +kernel) rfl
theorem k_RX2_179 : wLk RX2 179 yX1_isBusiness := wIn 674 (by decide +kernel) rfl
theorem b_yX2_payWaiting : wLB yX2_payWaiting cX2_payWaiting 3 (none) 0 := ⟨wIn 83 (by decide +kernel) rfl, wIn 690 (by decide +kernel) rfl, by decide +kernel, by decide +kernel, rfl, by decide, by decide +kernel⟩
theorem x_yX2_payWaiting : wLV yX2_payWaiting := ⟨wIn 689 (by decide +kernel) rfl, wIn 8 (by decide +kernel) rfl⟩
theorem k_RX2_182 : wLk RX2 182 yX2_payWaiting := wIn 687 (by decide +kernel) rfl
theorem b_yX2_chargeInterest : wLB yX2_chargeInterest cX2_chargeInterest 5 (none) 0 := ⟨wIn 83 (by decide +kernel) rfl, wIn 706 (by decide +kernel) rfl, by decide +kernel, by decide +kernel, rfl, by decide, by decide +kernel⟩
theorem x_yX2_chargeInterest : wLV yX2_chargeInterest := ⟨wIn 705 (by decide +kernel) rfl, wIn 12 (by decide +kernel) rfl⟩
theorem k_RX2_185 : wLk RX2 185 yX2_chargeInterest := wIn 703 (by decide +kernel) rfl
theorem b_yX3_hasPaymentsLeft : wLB yX3_hasPaymentsLeft cX3_hasPaymentsLeft 1 (some .boolean) 0 := ⟨wIn 87 (by decide +kernel) rfl, wIn 669 (by decide +kernel) rfl, by decide +kernel, by decide +kernel, rfl, by decide, by decide +kernel⟩
theorem x_yX3_hasPaymentsLeft : wLV yX3_hasPaymentsLeft := ⟨wIn 667 (by decide +kernel) rfl, wIn 668 (by decide +kernel) rfl⟩
theorem k_RX2_188 : wLk RX2 188 yX3_hasPaymentsLeft := wIn 666 (by decide +kernel) rfl
theorem b_yX2_takeNextOccurrence : wLB yX2_takeNextOccurrence cX2_takeNextOccurrence 3 (none) 1 := ⟨wIn 83 (by decide +kernel) rfl, wIn 673 (by decide +kernel) rfl, by decide +kernel, by decide +kernel, rfl, by decide, by decide +kernel⟩
theorem x_yX2_takeNextOccurrence : wLV yX2_takeNextOccurrence := ⟨wIn 672 (by decide +kernel) rfl, wIn 6 (by decide +kernel) rfl⟩
theorem k_RX2_195 : wLk RX2 195 yX2_takeNextOccurrence := wIn 670 (by decide +kernel) rfl
theorem b_yX5_add : wLB yX5_add cX5_add 5 (some .boolean) 4 := ⟨wIn 85 (by decide +kernel) rfl, wIn 678 (by decide +kernel) rfl, by decide +kernel, by decide +kernel, rfl, by decide, by decide +kernel⟩
theorem x_yX5_add : wLV yX5_add := ⟨wIn 676 (by decide +kernel) rfl, wIn 677 (by decide +kernel) rfl⟩
theorem k_RX2_217 : wLk RX2 217 yX5_add := wIn 675 (by decide +kernel) rfl
theorem k_RX2_233 : Cond.methodLink RX2 233 Lib.MathLoose.min_long.x ∈ wAll := wIn 684 (by decide +kernel) rfl
theorem b_yX2_payWaitingOf : wLB yX2_payWaitingOf cX2_payWaitingOf 3 (none) 1 := ⟨wIn 83 (by decide +kernel) rfl, wIn 694 (by decide +kernel) rfl, by decide +kernel, by decide +kernel, rfl, by decide, by decide +kernel⟩
theorem x_yX2_payWaitingOf : wLV yX2_payWaitingOf := ⟨wIn 693 (by decide +kernel) rfl, wIn 9 (by decide +kernel) rfl⟩
theorem k_RX2_245 : wLk RX2 245 yX2_payWaitingOf := wIn 691 (by decide +kernel) rfl
theorem b_yX2_tryPayment : wLB yX2_tryPayment cX2_tryPayment 5 (none) 1 := ⟨wIn 83 (by decide +kernel) rfl, wIn 698 (by decide +kernel) rfl, by decide +kernel, by decide +kernel, rfl, by decide, by decide +kernel⟩
theorem x_yX2_tryPayment : wLV yX2_tryPayment := ⟨wIn 697 (by decide +kernel) rfl, wIn 10 (by decide +kernel) rfl⟩
theorem k_RX2_248 : wLk RX2 248 yX2_tryPayment := wIn 695 (by decide +kernel) rfl
theorem b_yX2_failTry : wLB yX2_failTry cX2_failTry 3 (none) 1 := ⟨wIn 83 (by decide +kernel) rfl, wIn 702 (by decide +kernel) rfl, by decide +kernel, by decide +kernel, rfl, by decide, by decide +kernel⟩
theorem x_yX2_failTry : wLV yX2_failTry := ⟨wIn 701 (by decide +kernel) rfl, wIn 11 (by decide +kernel) rfl⟩
theorem k_RX2_251 : wLk RX2 251 yX2_failTry := wIn 699 (by decide +kernel) rfl
theorem k_RX2_270 : wLk RX2 270 yX1_monthOf := wIn 708 (by decide +kernel) rfl
theorem b_yX1_lastDayOf : wLB yX1_lastDayOf cX1_lastDayOf 1 (some .int) 1 := ⟨wIn 84 (by decide +kernel) rfl, wIn 585 (by decide +kernel) rfl, by decide +kernel, by decide +kernel, rfl, by decide, by decide +kernel⟩
theorem x_yX1_lastDayOf : wLS yX1_lastDayOf := wIn 584 (by decide +kernel) rfl
theorem k_RX2_273 : wLk RX2 273 yX1_lastDayOf := wIn 709 (by decide +kernel) rfl
theorem b_yX0_takeInterest : wLB yX0_takeInterest cX0_takeInterest 3 (none) 0 := ⟨wIn 86 (by decide +kernel) rfl, wIn 714 (by decide +kernel) rfl, by decide +kernel, by decide +kernel, rfl, by decide, by decide +kernel⟩
theorem x_yX0_takeInterest : wLV yX0_takeInterest := ⟨wIn 712 (by decide +kernel) rfl, wIn 713 (by decide +kernel) rfl⟩
theorem k_RX2_282 : wLk RX2 282 yX0_takeInterest := wIn 711 (by decide +kernel) rfl
theorem k_RX3_64 : wLk RX3 64 yX1_monthOf := wIn 575 (by decide +kernel) rfl
theorem k_RX3_70 : wLk RX3 70 yX1_firstDayOf := wIn 580 (by decide +kernel) rfl
theorem k_RX3_73 : wLk RX3 73 yX1_lastDayOf := wIn 583 (by decide +kernel) rfl
theorem k_RX3_76 : Cond.methodLink RX3 76 Lib.Math.min.name ∈ wAll := wIn 586 (by decide +kernel) rfl
theorem k_RX3_82 : wLk RX3 82 yX1_lastBusiness := wIn 587 (by decide +kernel) rfl
theorem b_yX3_nominalDay : wLB yX3_nominalDay cX3_nominalDay 7 (some .int) 2 := ⟨wIn 87 (by decide +kernel) rfl, wIn 574 (by decide +kernel) rfl, by decide +kernel, by decide +kernel, rfl, by decide, by decide +kernel⟩
theorem x_yX3_nominalDay : wLV yX3_nominalDay := ⟨wIn 572 (by decide +kernel) rfl, wIn 573 (by decide +kernel) rfl⟩
theorem k_RX3_88 : wLk RX3 88 yX3_nominalDay := wIn 571 (by decide +kernel) rfl
theorem k_RX3_95 : wLk RX3 95 yX1_shifted := wIn 595 (by decide +kernel) rfl
theorem k_RX3_101 : wLk RX3 101 yX3_aim := wIn 567 (by decide +kernel) rfl
theorem k_RX4_28 : wLk RX4 28 yX4_readAct := wIn 832 (by decide +kernel) rfl
theorem k_RX4_32 : wLk RX4 32 yX4_takes := wIn 937 (by decide +kernel) rfl
theorem b_yX4_sign : wLB yX4_sign cX4_sign 1 (some .char) 0 := ⟨wIn 88 (by decide +kernel) rfl, wIn 839 (by decide +kernel) rfl, by decide +kernel, by decide +kernel, rfl, by decide, by decide +kernel⟩
theorem x_yX4_sign : wLV yX4_sign := ⟨wIn 838 (by decide +kernel) rfl, wIn 14 (by decide +kernel) rfl⟩
theorem k_RX4_36 : wLk RX4 36 yX4_sign := wIn 836 (by decide +kernel) rfl
theorem b_yX4_readParties : wLB yX4_readParties cX4_readParties 1 (some .boolean) 0 := ⟨wIn 88 (by decide +kernel) rfl, wIn 843 (by decide +kernel) rfl, by decide +kernel, by decide +kernel, rfl, by decide, by decide +kernel⟩
theorem x_yX4_readParties : wLV yX4_readParties := ⟨wIn 842 (by decide +kernel) rfl, wIn 15 (by decide +kernel) rfl⟩
theorem k_RX4_44 : wLk RX4 44 yX4_readParties := wIn 840 (by decide +kernel) rfl
theorem b_yX4_readAmountAndDates : wLB yX4_readAmountAndDates cX4_readAmountAndDates 1 (some .boolean) 0 := ⟨wIn 88 (by decide +kernel) rfl, wIn 944 (by decide +kernel) rfl, by decide +kernel, by decide +kernel, rfl, by decide, by decide +kernel⟩
theorem x_yX4_readAmountAndDates : wLV yX4_readAmountAndDates := ⟨wIn 943 (by decide +kernel) rfl, wIn 18 (by decide +kernel) rfl⟩
theorem k_RX4_47 : wLk RX4 47 yX4_readAmountAndDates := wIn 941 (by decide +kernel) rfl
theorem b_yX4_readNumber : wLB yX4_readNumber cX4_readNumber 3 (some .int) 0 := ⟨wIn 88 (by decide +kernel) rfl, wIn 948 (by decide +kernel) rfl, by decide +kernel, by decide +kernel, rfl, by decide, by decide +kernel⟩
theorem x_yX4_readNumber : wLV yX4_readNumber := ⟨wIn 947 (by decide +kernel) rfl, wIn 19 (by decide +kernel) rfl⟩
theorem k_RX4_50 : wLk RX4 50 yX4_readNumber := wIn 945 (by decide +kernel) rfl
theorem b_yX4_readDigit : wLB yX4_readDigit cX4_readDigit 1 (some .int) 0 := ⟨wIn 88 (by decide +kernel) rfl, wIn 847 (by decide +kernel) rfl, by decide +kernel, by decide +kernel, rfl, by decide, by decide +kernel⟩
theorem x_yX4_readDigit : wLV yX4_readDigit := ⟨wIn 846 (by decide +kernel) rfl, wIn 16 (by decide +kernel) rfl⟩
theorem k_RX4_57 : wLk RX4 57 yX4_readDigit := wIn 844 (by decide +kernel) rfl
theorem b_yX4_readOneOf : wLB yX4_readOneOf cX4_readOneOf 3 (some .int) 1 := ⟨wIn 88 (by decide +kernel) rfl, wIn 852 (by decide +kernel) rfl, by decide +kernel, by decide +kernel, rfl, by decide, by decide +kernel⟩
theorem x_yX4_readOneOf : wLV yX4_readOneOf := ⟨wIn 851 (by decide +kernel) rfl, wIn 17 (by decide +kernel) rfl⟩
theorem k_RX4_68 : wLk RX4 68 yX4_readOneOf := wIn 849 (by decide +kernel) rfl
theorem b_yJ0_indexOf_0f7a4 : wLB yJ0_indexOf_0f7a4 cJ0_indexOf_0f7a4 2 (some .int) 1 := ⟨wIn 93 (by decide +kernel) rfl, wIn 856 (by decide +kernel) rfl, by decide +kernel, by decide +kernel, rfl, by decide, by decide +kernel⟩
theorem x_yJ0_indexOf_0f7a4 : wLV yJ0_indexOf_0f7a4 := ⟨wIn 854 (by decide +kernel) rfl, wIn 855 (by decide +kernel) rfl⟩
theorem k_RX4_86 : wLk RX4 86 yJ0_indexOf_0f7a4 := wIn 853 (by decide +kernel) rfl
theorem b_yX5_makeRoom : wLB yX5_makeRoom cX5_makeRoom 3 (none) 1 := ⟨wIn 85 (by decide +kernel) rfl, wIn 461 (by decide +kernel) rfl, by decide +kernel, by decide +kernel, rfl, by decide, by decide +kernel⟩
theorem x_yX5_makeRoom : wLV yX5_makeRoom := ⟨wIn 460 (by decide +kernel) rfl, wIn 2 (by decide +kernel) rfl⟩
theorem k_RX5_23 : wLk RX5 23 yX5_makeRoom := wIn 458 (by decide +kernel) rfl
theorem b_yJ7_copyOf_59c91 : wLB yJ7_copyOf_59c91 cJ7_copyOf_59c91 3 (some (.array .int)) 2 := ⟨wIn 91 (by decide +kernel) rfl, wIn 464 (by decide +kernel) rfl, by decide +kernel, by decide +kernel, rfl, by decide, by decide +kernel⟩
theorem x_yJ7_copyOf_59c91 : wLS yJ7_copyOf_59c91 := wIn 463 (by decide +kernel) rfl
theorem k_RX5_33 : wLk RX5 33 yJ7_copyOf_59c91 := wIn 462 (by decide +kernel) rfl
theorem k_RX5_39 : Cond.methodLink RX5 39 Lib.Math.min.name ∈ wAll := wIn 679 (by decide +kernel) rfl
theorem b_yX6_init : wLB yX6_init cX6_init 2 (none) 0 := ⟨wIn 82 (by decide +kernel) rfl, wIn 102 (by decide +kernel) rfl, by decide +kernel, by decide +kernel, rfl, by decide, by decide +kernel⟩
theorem x_yX6_init : wLI yX6_init := ⟨rfl, wIn 101 (by decide +kernel) rfl⟩
theorem k_RL_9 : wLk RL 9 yX6_init := wIn 100 (by decide +kernel) rfl
theorem b_yX7_init : wLB yX7_init cX7_init 1 (none) 0 := ⟨wIn 89 (by decide +kernel) rfl, wIn 978 (by decide +kernel) rfl, by decide +kernel, by decide +kernel, rfl, by decide, by decide +kernel⟩
theorem x_yX7_init : wLI yX7_init := ⟨rfl, wIn 977 (by decide +kernel) rfl⟩
theorem k_RL_12 : wLk RL 12 yX7_init := wIn 976 (by decide +kernel) rfl
theorem b_yX6_set : wLB yX6_set cX6_set 3 (some .int) 2 := ⟨wIn 82 (by decide +kernel) rfl, wIn 426 (by decide +kernel) rfl, by decide +kernel, by decide +kernel, rfl, by decide, by decide +kernel⟩
theorem x_yX6_set : wLV yX6_set := ⟨wIn 424 (by decide +kernel) rfl, wIn 425 (by decide +kernel) rfl⟩
theorem k_RL_13 : wLk RL 13 yX6_set := wIn 423 (by decide +kernel) rfl
theorem b_yX7_set : wLB yX7_set cX7_set 4 (some .int) 2 := ⟨wIn 89 (by decide +kernel) rfl, wIn 1138 (by decide +kernel) rfl, by decide +kernel, by decide +kernel, rfl, by decide, by decide +kernel⟩
theorem x_yX7_set : wLV yX7_set := ⟨wIn 1136 (by decide +kernel) rfl, wIn 1137 (by decide +kernel) rfl⟩
theorem k_RL_17 : wLk RL 17 yX7_set := wIn 1135 (by decide +kernel) rfl
theorem b_yX6_holiday : wLB yX6_holiday cX6_holiday 3 (some .int) 2 := ⟨wIn 82 (by decide +kernel) rfl, wIn 503 (by decide +kernel) rfl, by decide +kernel, by decide +kernel, rfl, by decide, by decide +kernel⟩
theorem x_yX6_holiday : wLV yX6_holiday := ⟨wIn 501 (by decide +kernel) rfl, wIn 502 (by decide +kernel) rfl⟩
theorem k_RL_18 : wLk RL 18 yX6_holiday := wIn 500 (by decide +kernel) rfl
theorem b_yX7_holiday : wLB yX7_holiday cX7_holiday 5 (some .int) 2 := ⟨wIn 89 (by decide +kernel) rfl, wIn 1150 (by decide +kernel) rfl, by decide +kernel, by decide +kernel, rfl, by decide, by decide +kernel⟩
theorem x_yX7_holiday : wLV yX7_holiday := ⟨wIn 1148 (by decide +kernel) rfl, wIn 1149 (by decide +kernel) rfl⟩
theorem k_RL_21 : wLk RL 21 yX7_holiday := wIn 1147 (by decide +kernel) rfl
theorem b_yX6_account : wLB yX6_account cX6_account 3 (some .int) 2 := ⟨wIn 82 (by decide +kernel) rfl, wIn 516 (by decide +kernel) rfl, by decide +kernel, by decide +kernel, rfl, by decide, by decide +kernel⟩
theorem x_yX6_account : wLV yX6_account := ⟨wIn 514 (by decide +kernel) rfl, wIn 515 (by decide +kernel) rfl⟩
theorem k_RL_22 : wLk RL 22 yX6_account := wIn 513 (by decide +kernel) rfl
theorem b_yX7_account : wLB yX7_account cX7_account 5 (some .int) 2 := ⟨wIn 89 (by decide +kernel) rfl, wIn 1155 (by decide +kernel) rfl, by decide +kernel, by decide +kernel, rfl, by decide, by decide +kernel⟩
theorem x_yX7_account : wLV yX7_account := ⟨wIn 1153 (by decide +kernel) rfl, wIn 1154 (by decide +kernel) rfl⟩
theorem k_RL_25 : wLk RL 25 yX7_account := wIn 1152 (by decide +kernel) rfl
theorem b_yX6_feed : wLB yX6_feed cX6_feed 3 (some .int) 2 := ⟨wIn 82 (by decide +kernel) rfl, wIn 529 (by decide +kernel) rfl, by decide +kernel, by decide +kernel, rfl, by decide, by decide +kernel⟩
theorem x_yX6_feed : wLV yX6_feed := ⟨wIn 527 (by decide +kernel) rfl, wIn 528 (by decide +kernel) rfl⟩
theorem k_RL_26 : wLk RL 26 yX6_feed := wIn 526 (by decide +kernel) rfl
theorem b_yX7_feed : wLB yX7_feed cX7_feed 4 (some .int) 2 := ⟨wIn 89 (by decide +kernel) rfl, wIn 1162 (by decide +kernel) rfl, by decide +kernel, by decide +kernel, rfl, by decide, by decide +kernel⟩
theorem x_yX7_feed : wLV yX7_feed := ⟨wIn 1160 (by decide +kernel) rfl, wIn 1161 (by decide +kernel) rfl⟩
theorem k_RL_29 : wLk RL 29 yX7_feed := wIn 1159 (by decide +kernel) rfl
theorem b_yX6_deposit : wLB yX6_deposit cX6_deposit 3 (some .int) 2 := ⟨wIn 82 (by decide +kernel) rfl, wIn 541 (by decide +kernel) rfl, by decide +kernel, by decide +kernel, rfl, by decide, by decide +kernel⟩
theorem x_yX6_deposit : wLV yX6_deposit := ⟨wIn 539 (by decide +kernel) rfl, wIn 540 (by decide +kernel) rfl⟩
theorem k_RL_30 : wLk RL 30 yX6_deposit := wIn 538 (by decide +kernel) rfl
theorem b_yX7_deposit : wLB yX7_deposit cX7_deposit 4 (some .int) 2 := ⟨wIn 89 (by decide +kernel) rfl, wIn 1174 (by decide +kernel) rfl, by decide +kernel, by decide +kernel, rfl, by decide, by decide +kernel⟩
theorem x_yX7_deposit : wLV yX7_deposit := ⟨wIn 1172 (by decide +kernel) rfl, wIn 1173 (by decide +kernel) rfl⟩
theorem k_RL_33 : wLk RL 33 yX7_deposit := wIn 1171 (by decide +kernel) rfl
theorem b_yX6_order : wLB yX6_order cX6_order 7 (some .int) 6 := ⟨wIn 82 (by decide +kernel) rfl, wIn 550 (by decide +kernel) rfl, by decide +kernel, by decide +kernel, rfl, by decide, by decide +kernel⟩
theorem x_yX6_order : wLV yX6_order := ⟨wIn 548 (by decide +kernel) rfl, wIn 549 (by decide +kernel) rfl⟩
theorem k_RL_34 : wLk RL 34 yX6_order := wIn 547 (by decide +kernel) rfl
theorem b_yX7_order : wLB yX7_order cX7_order 8 (some .int) 6 := ⟨wIn 89 (by decide +kernel) rfl, wIn 1227 (by decide +kernel) rfl, by decide +kernel, by decide +kernel, rfl, by decide, by decide +kernel⟩
theorem x_yX7_order : wLV yX7_order := ⟨wIn 1225 (by decide +kernel) rfl, wIn 1226 (by decide +kernel) rfl⟩
theorem k_RL_38 : wLk RL 38 yX7_order := wIn 1224 (by decide +kernel) rfl
theorem b_yX6_change : wLB yX6_change cX6_change 4 (some .int) 3 := ⟨wIn 82 (by decide +kernel) rfl, wIn 608 (by decide +kernel) rfl, by decide +kernel, by decide +kernel, rfl, by decide, by decide +kernel⟩
theorem x_yX6_change : wLV yX6_change := ⟨wIn 606 (by decide +kernel) rfl, wIn 607 (by decide +kernel) rfl⟩
theorem k_RL_39 : wLk RL 39 yX6_change := wIn 605 (by decide +kernel) rfl
theorem b_yX7_change : wLB yX7_change cX7_change 5 (some .int) 3 := ⟨wIn 89 (by decide +kernel) rfl, wIn 1252 (by decide +kernel) rfl, by decide +kernel, by decide +kernel, rfl, by decide, by decide +kernel⟩
theorem x_yX7_change : wLV yX7_change := ⟨wIn 1250 (by decide +kernel) rfl, wIn 1251 (by decide +kernel) rfl⟩
theorem k_RL_43 : wLk RL 43 yX7_change := wIn 1249 (by decide +kernel) rfl
theorem b_yX6_stop : wLB yX6_stop cX6_stop 2 (some .int) 1 := ⟨wIn 82 (by decide +kernel) rfl, wIn 620 (by decide +kernel) rfl, by decide +kernel, by decide +kernel, rfl, by decide, by decide +kernel⟩
theorem x_yX6_stop : wLV yX6_stop := ⟨wIn 618 (by decide +kernel) rfl, wIn 619 (by decide +kernel) rfl⟩
theorem k_RL_44 : wLk RL 44 yX6_stop := wIn 617 (by decide +kernel) rfl
theorem b_yX7_stop : wLB yX7_stop cX7_stop 3 (some .int) 1 := ⟨wIn 89 (by decide +kernel) rfl, wIn 1256 (by decide +kernel) rfl, by decide +kernel, by decide +kernel, rfl, by decide, by decide +kernel⟩
theorem x_yX7_stop : wLV yX7_stop := ⟨wIn 1254 (by decide +kernel) rfl, wIn 1255 (by decide +kernel) rfl⟩
theorem k_RL_48 : wLk RL 48 yX7_stop := wIn 1253 (by decide +kernel) rfl
theorem b_yX6_goOn : wLB yX6_goOn cX6_goOn 2 (some .int) 1 := ⟨wIn 82 (by decide +kernel) rfl, wIn 628 (by decide +kernel) rfl, by decide +kernel, by decide +kernel, rfl, by decide, by decide +kernel⟩
theorem x_yX6_goOn : wLV yX6_goOn := ⟨wIn 626 (by decide +kernel) rfl, wIn 627 (by decide +kernel) rfl⟩
theorem k_RL_49 : wLk RL 49 yX6_goOn := wIn 625 (by decide +kernel) rfl
theorem b_yX7_goOn : wLB yX7_goOn cX7_goOn 3 (some .int) 1 := ⟨wIn 89 (by decide +kernel) rfl, wIn 1282 (by decide +kernel) rfl, by decide +kernel, by decide +kernel, rfl, by decide, by decide +kernel⟩
theorem x_yX7_goOn : wLV yX7_goOn := ⟨wIn 1280 (by decide +kernel) rfl, wIn 1281 (by decide +kernel) rfl⟩
theorem k_RL_52 : wLk RL 52 yX7_goOn := wIn 1279 (by decide +kernel) rfl
theorem b_yX6_giveUp : wLB yX6_giveUp cX6_giveUp 2 (some .int) 1 := ⟨wIn 82 (by decide +kernel) rfl, wIn 636 (by decide +kernel) rfl, by decide +kernel, by decide +kernel, rfl, by decide, by decide +kernel⟩
theorem x_yX6_giveUp : wLV yX6_giveUp := ⟨wIn 634 (by decide +kernel) rfl, wIn 635 (by decide +kernel) rfl⟩
theorem k_RL_53 : wLk RL 53 yX6_giveUp := wIn 633 (by decide +kernel) rfl
theorem b_yX7_giveUp : wLB yX7_giveUp cX7_giveUp 2 (some .int) 1 := ⟨wIn 89 (by decide +kernel) rfl, wIn 1290 (by decide +kernel) rfl, by decide +kernel, by decide +kernel, rfl, by decide, by decide +kernel⟩
theorem x_yX7_giveUp : wLV yX7_giveUp := ⟨wIn 1288 (by decide +kernel) rfl, wIn 1289 (by decide +kernel) rfl⟩
theorem k_RL_56 : wLk RL 56 yX7_giveUp := wIn 1287 (by decide +kernel) rfl
theorem b_yX6_days : wLB yX6_days cX6_days 3 (some .int) 1 := ⟨wIn 82 (by decide +kernel) rfl, wIn 652 (by decide +kernel) rfl, by decide +kernel, by decide +kernel, rfl, by decide, by decide +kernel⟩
theorem x_yX6_days : wLV yX6_days := ⟨wIn 650 (by decide +kernel) rfl, wIn 651 (by decide +kernel) rfl⟩
theorem k_RL_57 : wLk RL 57 yX6_days := wIn 649 (by decide +kernel) rfl
theorem b_yX7_days : wLB yX7_days cX7_days 3 (some .int) 1 := ⟨wIn 89 (by decide +kernel) rfl, wIn 1302 (by decide +kernel) rfl, by decide +kernel, by decide +kernel, rfl, by decide, by decide +kernel⟩
theorem x_yX7_days : wLV yX7_days := ⟨wIn 1300 (by decide +kernel) rfl, wIn 1301 (by decide +kernel) rfl⟩
theorem k_RL_60 : wLk RL 60 yX7_days := wIn 1299 (by decide +kernel) rfl
theorem b_yX6_ofDay : wLB yX6_ofDay cX6_ofDay 3 (some .int) 2 := ⟨wIn 82 (by decide +kernel) rfl, wIn 718 (by decide +kernel) rfl, by decide +kernel, by decide +kernel, rfl, by decide, by decide +kernel⟩
theorem x_yX6_ofDay : wLV yX6_ofDay := ⟨wIn 716 (by decide +kernel) rfl, wIn 717 (by decide +kernel) rfl⟩
theorem k_RL_61 : wLk RL 61 yX6_ofDay := wIn 715 (by decide +kernel) rfl
theorem b_yX7_ofDay : wLB yX7_ofDay cX7_ofDay 3 (some .int) 2 := ⟨wIn 89 (by decide +kernel) rfl, wIn 1092 (by decide +kernel) rfl, by decide +kernel, by decide +kernel, rfl, by decide, by decide +kernel⟩
theorem x_yX7_ofDay : wLV yX7_ofDay := ⟨wIn 1090 (by decide +kernel) rfl, wIn 1091 (by decide +kernel) rfl⟩
theorem k_RL_64 : wLk RL 64 yX7_ofDay := wIn 1089 (by decide +kernel) rfl
theorem b_yX6_money : wLB yX6_money cX6_money 3 (some .long) 2 := ⟨wIn 82 (by decide +kernel) rfl, wIn 731 (by decide +kernel) rfl, by decide +kernel, by decide +kernel, rfl, by decide, by decide +kernel⟩
theorem x_yX6_money : wLV yX6_money := ⟨wIn 729 (by decide +kernel) rfl, wIn 730 (by decide +kernel) rfl⟩
theorem k_RL_65 : wLk RL 65 yX6_money := wIn 728 (by decide +kernel) rfl
theorem b_yX7_money : wLB yX7_money cX7_money 3 (some .long) 2 := ⟨wIn 89 (by decide +kernel) rfl, wIn 1358 (by decide +kernel) rfl, by decide +kernel, by decide +kernel, rfl, by decide, by decide +kernel⟩
theorem x_yX7_money : wLV yX7_money := ⟨wIn 1356 (by decide +kernel) rfl, wIn 1357 (by decide +kernel) rfl⟩
theorem k_RL_69 : wLk RL 69 yX7_money := wIn 1355 (by decide +kernel) rfl
theorem b_yX6_owedBits : wLB yX6_owedBits cX6_owedBits 2 (some .long) 1 := ⟨wIn 82 (by decide +kernel) rfl, wIn 742 (by decide +kernel) rfl, by decide +kernel, by decide +kernel, rfl, by decide, by decide +kernel⟩
theorem x_yX6_owedBits : wLV yX6_owedBits := ⟨wIn 740 (by decide +kernel) rfl, wIn 741 (by decide +kernel) rfl⟩
theorem k_RL_70 : wLk RL 70 yX6_owedBits := wIn 739 (by decide +kernel) rfl
theorem b_yX7_owedBits : wLB yX7_owedBits cX7_owedBits 2 (some .long) 1 := ⟨wIn 89 (by decide +kernel) rfl, wIn 1364 (by decide +kernel) rfl, by decide +kernel, by decide +kernel, rfl, by decide, by decide +kernel⟩
theorem x_yX7_owedBits : wLV yX7_owedBits := ⟨wIn 1362 (by decide +kernel) rfl, wIn 1363 (by decide +kernel) rfl⟩
theorem k_RL_74 : wLk RL 74 yX7_owedBits := wIn 1361 (by decide +kernel) rfl
theorem b_yX6_ofOrder : wLB yX6_ofOrder cX6_ofOrder 3 (some .int) 2 := ⟨wIn 82 (by decide +kernel) rfl, wIn 752 (by decide +kernel) rfl, by decide +kernel, by decide +kernel, rfl, by decide, by decide +kernel⟩
theorem x_yX6_ofOrder : wLV yX6_ofOrder := ⟨wIn 750 (by decide +kernel) rfl, wIn 751 (by decide +kernel) rfl⟩
theorem k_RL_75 : wLk RL 75 yX6_ofOrder := wIn 749 (by decide +kernel) rfl
theorem b_yX7_ofOrder : wLB yX7_ofOrder cX7_ofOrder 4 (some .int) 2 := ⟨wIn 89 (by decide +kernel) rfl, wIn 1374 (by decide +kernel) rfl, by decide +kernel, by decide +kernel, rfl, by decide, by decide +kernel⟩
theorem x_yX7_ofOrder : wLV yX7_ofOrder := ⟨wIn 1372 (by decide +kernel) rfl, wIn 1373 (by decide +kernel) rfl⟩
theorem k_RL_78 : wLk RL 78 yX7_ofOrder := wIn 1371 (by decide +kernel) rfl
theorem b_yX6_ofPayment : wLB yX6_ofPayment cX6_ofPayment 3 (some .int) 2 := ⟨wIn 82 (by decide +kernel) rfl, wIn 765 (by decide +kernel) rfl, by decide +kernel, by decide +kernel, rfl, by decide, by decide +kernel⟩
theorem x_yX6_ofPayment : wLV yX6_ofPayment := ⟨wIn 763 (by decide +kernel) rfl, wIn 764 (by decide +kernel) rfl⟩
theorem k_RL_79 : wLk RL 79 yX6_ofPayment := wIn 762 (by decide +kernel) rfl
theorem b_yX7_ofPayment : wLB yX7_ofPayment cX7_ofPayment 3 (some .int) 2 := ⟨wIn 89 (by decide +kernel) rfl, wIn 1379 (by decide +kernel) rfl, by decide +kernel, by decide +kernel, rfl, by decide, by decide +kernel⟩
theorem x_yX7_ofPayment : wLV yX7_ofPayment := ⟨wIn 1377 (by decide +kernel) rfl, wIn 1378 (by decide +kernel) rfl⟩
theorem k_RL_82 : wLk RL 82 yX7_ofPayment := wIn 1376 (by decide +kernel) rfl
theorem b_yX6_count : wLB yX6_count cX6_count 2 (some .int) 1 := ⟨wIn 82 (by decide +kernel) rfl, wIn 769 (by decide +kernel) rfl, by decide +kernel, by decide +kernel, rfl, by decide, by decide +kernel⟩
theorem x_yX6_count : wLV yX6_count := ⟨wIn 767 (by decide +kernel) rfl, wIn 768 (by decide +kernel) rfl⟩
theorem k_RL_83 : wLk RL 83 yX6_count := wIn 766 (by decide +kernel) rfl
theorem b_yX7_count : wLB yX7_count cX7_count 2 (some .int) 1 := ⟨wIn 89 (by decide +kernel) rfl, wIn 1383 (by decide +kernel) rfl, by decide +kernel, by decide +kernel, rfl, by decide, by decide +kernel⟩
theorem x_yX7_count : wLV yX7_count := ⟨wIn 1381 (by decide +kernel) rfl, wIn 1382 (by decide +kernel) rfl⟩
theorem k_RL_86 : wLk RL 86 yX7_count := wIn 1380 (by decide +kernel) rfl
theorem b_yX6_dateOf : wLB yX6_dateOf cX6_dateOf 3 (some .int) 2 := ⟨wIn 82 (by decide +kernel) rfl, wIn 782 (by decide +kernel) rfl, by decide +kernel, by decide +kernel, rfl, by decide, by decide +kernel⟩
theorem x_yX6_dateOf : wLV yX6_dateOf := ⟨wIn 780 (by decide +kernel) rfl, wIn 781 (by decide +kernel) rfl⟩
theorem k_RL_87 : wLk RL 87 yX6_dateOf := wIn 779 (by decide +kernel) rfl
theorem b_yX7_dateOf : wLB yX7_dateOf cX7_dateOf 5 (some .int) 2 := ⟨wIn 89 (by decide +kernel) rfl, wIn 1195 (by decide +kernel) rfl, by decide +kernel, by decide +kernel, rfl, by decide, by decide +kernel⟩
theorem x_yX7_dateOf : wLV yX7_dateOf := ⟨wIn 1193 (by decide +kernel) rfl, wIn 1194 (by decide +kernel) rfl⟩
theorem k_RL_90 : wLk RL 90 yX7_dateOf := wIn 1192 (by decide +kernel) rfl
theorem b_yX6_shift : wLB yX6_shift cX6_shift 3 (some .int) 2 := ⟨wIn 82 (by decide +kernel) rfl, wIn 790 (by decide +kernel) rfl, by decide +kernel, by decide +kernel, rfl, by decide, by decide +kernel⟩
theorem x_yX6_shift : wLV yX6_shift := ⟨wIn 788 (by decide +kernel) rfl, wIn 789 (by decide +kernel) rfl⟩
theorem k_RL_91 : wLk RL 91 yX6_shift := wIn 787 (by decide +kernel) rfl
theorem b_yX7_shift : wLB yX7_shift cX7_shift 3 (some .int) 2 := ⟨wIn 89 (by decide +kernel) rfl, wIn 1129 (by decide +kernel) rfl, by decide +kernel, by decide +kernel, rfl, by decide, by decide +kernel⟩
theorem x_yX7_shift : wLV yX7_shift := ⟨wIn 1127 (by decide +kernel) rfl, wIn 1128 (by decide +kernel) rfl⟩
theorem k_RL_94 : wLk RL 94 yX7_shift := wIn 1126 (by decide +kernel) rfl
theorem b_yX6_balanceIn : wLB yX6_balanceIn cX6_balanceIn 3 (some .long) 2 := ⟨wIn 82 (by decide +kernel) rfl, wIn 795 (by decide +kernel) rfl, by decide +kernel, by decide +kernel, rfl, by decide, by decide +kernel⟩
theorem x_yX6_balanceIn : wLV yX6_balanceIn := ⟨wIn 793 (by decide +kernel) rfl, wIn 794 (by decide +kernel) rfl⟩
theorem k_RL_95 : wLk RL 95 yX6_balanceIn := wIn 792 (by decide +kernel) rfl
theorem b_yX7_balanceIn : wLB yX7_balanceIn cX7_balanceIn 5 (some .long) 2 := ⟨wIn 89 (by decide +kernel) rfl, wIn 1389 (by decide +kernel) rfl, by decide +kernel, by decide +kernel, rfl, by decide, by decide +kernel⟩
theorem x_yX7_balanceIn : wLV yX7_balanceIn := ⟨wIn 1387 (by decide +kernel) rfl, wIn 1388 (by decide +kernel) rfl⟩
theorem k_RL_98 : wLk RL 98 yX7_balanceIn := wIn 1386 (by decide +kernel) rfl
theorem b_yX6_firstFailure : wLB yX6_firstFailure cX6_firstFailure 2 (some .int) 1 := ⟨wIn 82 (by decide +kernel) rfl, wIn 800 (by decide +kernel) rfl, by decide +kernel, by decide +kernel, rfl, by decide, by decide +kernel⟩
theorem x_yX6_firstFailure : wLV yX6_firstFailure := ⟨wIn 798 (by decide +kernel) rfl, wIn 799 (by decide +kernel) rfl⟩
theorem k_RL_99 : wLk RL 99 yX6_firstFailure := wIn 797 (by decide +kernel) rfl
theorem b_yX7_firstFailure : wLB yX7_firstFailure cX7_firstFailure 3 (some .int) 1 := ⟨wIn 89 (by decide +kernel) rfl, wIn 1393 (by decide +kernel) rfl, by decide +kernel, by decide +kernel, rfl, by decide, by decide +kernel⟩
theorem x_yX7_firstFailure : wLV yX7_firstFailure := ⟨wIn 1391 (by decide +kernel) rfl, wIn 1392 (by decide +kernel) rfl⟩
theorem k_RL_102 : wLk RL 102 yX7_firstFailure := wIn 1390 (by decide +kernel) rfl
theorem b_yX6_leastDeposit : wLB yX6_leastDeposit cX6_leastDeposit 4 (some .int) 2 := ⟨wIn 82 (by decide +kernel) rfl, wIn 804 (by decide +kernel) rfl, by decide +kernel, by decide +kernel, rfl, by decide, by decide +kernel⟩
theorem x_yX6_leastDeposit : wLV yX6_leastDeposit := ⟨wIn 802 (by decide +kernel) rfl, wIn 803 (by decide +kernel) rfl⟩
theorem k_RL_103 : wLk RL 103 yX6_leastDeposit := wIn 801 (by decide +kernel) rfl
theorem b_yX7_leastDeposit : wLB yX7_leastDeposit cX7_leastDeposit 5 (some .int) 2 := ⟨wIn 89 (by decide +kernel) rfl, wIn 1401 (by decide +kernel) rfl, by decide +kernel, by decide +kernel, rfl, by decide, by decide +kernel⟩
theorem x_yX7_leastDeposit : wLV yX7_leastDeposit := ⟨wIn 1399 (by decide +kernel) rfl, wIn 1400 (by decide +kernel) rfl⟩
theorem k_RL_106 : wLk RL 106 yX7_leastDeposit := wIn 1398 (by decide +kernel) rfl
theorem b_yX6_ahead : wLB yX6_ahead cX6_ahead 6 (some .int) 3 := ⟨wIn 82 (by decide +kernel) rfl, wIn 809 (by decide +kernel) rfl, by decide +kernel, by decide +kernel, rfl, by decide, by decide +kernel⟩
theorem x_yX6_ahead : wLV yX6_ahead := ⟨wIn 807 (by decide +kernel) rfl, wIn 808 (by decide +kernel) rfl⟩
theorem k_RL_107 : wLk RL 107 yX6_ahead := wIn 806 (by decide +kernel) rfl
theorem b_yX7_ahead : wLB yX7_ahead cX7_ahead 6 (some .int) 3 := ⟨wIn 89 (by decide +kernel) rfl, wIn 1407 (by decide +kernel) rfl, by decide +kernel, by decide +kernel, rfl, by decide, by decide +kernel⟩
theorem x_yX7_ahead : wLV yX7_ahead := ⟨wIn 1405 (by decide +kernel) rfl, wIn 1406 (by decide +kernel) rfl⟩
theorem k_RL_110 : wLk RL 110 yX7_ahead := wIn 1404 (by decide +kernel) rfl
theorem b_yX6_put : wLB yX6_put cX6_put 3 (some .int) 1 := ⟨wIn 82 (by decide +kernel) rfl, wIn 813 (by decide +kernel) rfl, by decide +kernel, by decide +kernel, rfl, by decide, by decide +kernel⟩
theorem x_yX6_put : wLV yX6_put := ⟨wIn 811 (by decide +kernel) rfl, wIn 812 (by decide +kernel) rfl⟩
theorem k_RL_113 : wLk RL 113 yX6_put := wIn 810 (by decide +kernel) rfl
theorem b_yX7_put : wLB yX7_put cX7_put 5 (some .int) 1 := ⟨wIn 89 (by decide +kernel) rfl, wIn 1411 (by decide +kernel) rfl, by decide +kernel, by decide +kernel, rfl, by decide, by decide +kernel⟩
theorem x_yX7_put : wLV yX7_put := ⟨wIn 1409 (by decide +kernel) rfl, wIn 1410 (by decide +kernel) rfl⟩
theorem k_RL_117 : wLk RL 117 yX7_put := wIn 1408 (by decide +kernel) rfl
theorem b_yX6_wipe : wLB yX6_wipe cX6_wipe 2 (some .int) 0 := ⟨wIn 82 (by decide +kernel) rfl, wIn 823 (by decide +kernel) rfl, by decide +kernel, by decide +kernel, rfl, by decide, by decide +kernel⟩
theorem x_yX6_wipe : wLV yX6_wipe := ⟨wIn 821 (by decide +kernel) rfl, wIn 822 (by decide +kernel) rfl⟩
theorem k_RL_118 : wLk RL 118 yX6_wipe := wIn 820 (by decide +kernel) rfl
theorem b_yX7_wipe : wLB yX7_wipe cX7_wipe 2 (some .int) 0 := ⟨wIn 89 (by decide +kernel) rfl, wIn 1418 (by decide +kernel) rfl, by decide +kernel, by decide +kernel, rfl, by decide, by decide +kernel⟩
theorem x_yX7_wipe : wLV yX7_wipe := ⟨wIn 1416 (by decide +kernel) rfl, wIn 1417 (by decide +kernel) rfl⟩
theorem k_RL_122 : wLk RL 122 yX7_wipe := wIn 1415 (by decide +kernel) rfl
theorem b_yX6_fault : wLB yX6_fault cX6_fault 1 (some .int) 0 := ⟨wIn 82 (by decide +kernel) rfl, wIn 827 (by decide +kernel) rfl, by decide +kernel, by decide +kernel, rfl, by decide, by decide +kernel⟩
theorem x_yX6_fault : wLV yX6_fault := ⟨wIn 825 (by decide +kernel) rfl, wIn 826 (by decide +kernel) rfl⟩
theorem k_RL_123 : wLk RL 123 yX6_fault := wIn 824 (by decide +kernel) rfl
theorem b_yX7_fault : wLB yX7_fault cX7_fault 1 (some .int) 0 := ⟨wIn 89 (by decide +kernel) rfl, wIn 1422 (by decide +kernel) rfl, by decide +kernel, by decide +kernel, rfl, by decide, by decide +kernel⟩
theorem x_yX7_fault : wLV yX7_fault := ⟨wIn 1420 (by decide +kernel) rfl, wIn 1421 (by decide +kernel) rfl⟩
theorem k_RL_126 : wLk RL 126 yX7_fault := wIn 1419 (by decide +kernel) rfl
theorem b_yX6_carryOut : wLB yX6_carryOut cX6_carryOut 3 (some .int) 0 := ⟨wIn 82 (by decide +kernel) rfl, wIn 955 (by decide +kernel) rfl, by decide +kernel, by decide +kernel, rfl, by decide, by decide +kernel⟩
theorem x_yX6_carryOut : wLV yX6_carryOut := ⟨wIn 953 (by decide +kernel) rfl, wIn 954 (by decide +kernel) rfl⟩
theorem k_RL_127 : wLk RL 127 yX6_carryOut := wIn 952 (by decide +kernel) rfl
theorem b_yX7_carryOut : wLB yX7_carryOut cX7_carryOut 3 (some .int) 0 := ⟨wIn 89 (by decide +kernel) rfl, wIn 1465 (by decide +kernel) rfl, by decide +kernel, by decide +kernel, rfl, by decide, by decide +kernel⟩
theorem x_yX7_carryOut : wLV yX7_carryOut := ⟨wIn 1463 (by decide +kernel) rfl, wIn 1464 (by decide +kernel) rfl⟩
theorem k_RL_130 : wLk RL 130 yX7_carryOut := wIn 1462 (by decide +kernel) rfl
theorem b_yX6_undo : wLB yX6_undo cX6_undo 1 (some .int) 0 := ⟨wIn 82 (by decide +kernel) rfl, wIn 965 (by decide +kernel) rfl, by decide +kernel, by decide +kernel, rfl, by decide, by decide +kernel⟩
theorem x_yX6_undo : wLV yX6_undo := ⟨wIn 963 (by decide +kernel) rfl, wIn 964 (by decide +kernel) rfl⟩
theorem k_RL_131 : wLk RL 131 yX6_undo := wIn 962 (by decide +kernel) rfl
theorem b_yX7_undo : wLB yX7_undo cX7_undo 1 (some .int) 0 := ⟨wIn 89 (by decide +kernel) rfl, wIn 1052 (by decide +kernel) rfl, by decide +kernel, by decide +kernel, rfl, by decide, by decide +kernel⟩
theorem x_yX7_undo : wLV yX7_undo := ⟨wIn 1050 (by decide +kernel) rfl, wIn 1051 (by decide +kernel) rfl⟩
theorem k_RL_134 : wLk RL 134 yX7_undo := wIn 1049 (by decide +kernel) rfl
theorem b_yX6_save : wLB yX6_save cX6_save 2 (some .int) 1 := ⟨wIn 82 (by decide +kernel) rfl, wIn 969 (by decide +kernel) rfl, by decide +kernel, by decide +kernel, rfl, by decide, by decide +kernel⟩
theorem x_yX6_save : wLV yX6_save := ⟨wIn 967 (by decide +kernel) rfl, wIn 968 (by decide +kernel) rfl⟩
theorem k_RL_135 : wLk RL 135 yX6_save := wIn 966 (by decide +kernel) rfl
theorem b_yX7_save : wLB yX7_save cX7_save 2 (some .int) 1 := ⟨wIn 89 (by decide +kernel) rfl, wIn 1060 (by decide +kernel) rfl, by decide +kernel, by decide +kernel, rfl, by decide, by decide +kernel⟩
theorem x_yX7_save : wLV yX7_save := ⟨wIn 1058 (by decide +kernel) rfl, wIn 1059 (by decide +kernel) rfl⟩
theorem k_RL_138 : wLk RL 138 yX7_save := wIn 1057 (by decide +kernel) rfl
theorem b_yX6_restore : wLB yX6_restore cX6_restore 2 (some .int) 1 := ⟨wIn 82 (by decide +kernel) rfl, wIn 973 (by decide +kernel) rfl, by decide +kernel, by decide +kernel, rfl, by decide, by decide +kernel⟩
theorem x_yX6_restore : wLV yX6_restore := ⟨wIn 971 (by decide +kernel) rfl, wIn 972 (by decide +kernel) rfl⟩
theorem k_RL_139 : wLk RL 139 yX6_restore := wIn 970 (by decide +kernel) rfl
theorem b_yX7_restore : wLB yX7_restore cX7_restore 2 (some .int) 1 := ⟨wIn 89 (by decide +kernel) rfl, wIn 1079 (by decide +kernel) rfl, by decide +kernel, by decide +kernel, rfl, by decide, by decide +kernel⟩
theorem x_yX7_restore : wLV yX7_restore := ⟨wIn 1077 (by decide +kernel) rfl, wIn 1078 (by decide +kernel) rfl⟩
theorem k_RL_142 : wLk RL 142 yX7_restore := wIn 1076 (by decide +kernel) rfl
theorem b_yX7_of : wLB yX7_of cX7_of 2 (some .int) 1 := ⟨wIn 89 (by decide +kernel) rfl, wIn 1075 (by decide +kernel) rfl, by decide +kernel, by decide +kernel, rfl, by decide, by decide +kernel⟩
theorem x_yX7_of : wLV yX7_of := ⟨wIn 1074 (by decide +kernel) rfl, wIn 24 (by decide +kernel) rfl⟩
theorem k_RX7_43 : wLk RX7 43 yX7_of := wIn 1072 (by decide +kernel) rfl
theorem b_yX7_isIn : wLB yX7_isIn cX7_isIn 6 (some .boolean) 3 := ⟨wIn 89 (by decide +kernel) rfl, wIn 1063 (by decide +kernel) rfl, by decide +kernel, by decide +kernel, rfl, by decide, by decide +kernel⟩
theorem x_yX7_isIn : wLS yX7_isIn := wIn 1062 (by decide +kernel) rfl
theorem k_RX7_47 : wLk RX7 47 yX7_isIn := wIn 1061 (by decide +kernel) rfl
theorem b_yX7_drops : wLB yX7_drops cX7_drops 2 (none) 0 := ⟨wIn 89 (by decide +kernel) rfl, wIn 1087 (by decide +kernel) rfl, by decide +kernel, by decide +kernel, rfl, by decide, by decide +kernel⟩
theorem x_yX7_drops : wLV yX7_drops := ⟨wIn 1086 (by decide +kernel) rfl, wIn 26 (by decide +kernel) rfl⟩
theorem k_RX7_56 : wLk RX7 56 yX7_drops := wIn 1084 (by decide +kernel) rfl
theorem b_yX7_keeps : wLB yX7_keeps cX7_keeps 3 (none) 1 := ⟨wIn 89 (by decide +kernel) rfl, wIn 1067 (by decide +kernel) rfl, by decide +kernel, by decide +kernel, rfl, by decide, by decide +kernel⟩
theorem x_yX7_keeps : wLV yX7_keeps := ⟨wIn 1066 (by decide +kernel) rfl, wIn 22 (by decide +kernel) rfl⟩
theorem k_RX7_59 : wLk RX7 59 yX7_keeps := wIn 1064 (by decide +kernel) rfl
theorem b_yX7_brings : wLB yX7_brings cX7_brings 3 (none) 1 := ⟨wIn 89 (by decide +kernel) rfl, wIn 1056 (by decide +kernel) rfl, by decide +kernel, by decide +kernel, rfl, by decide, by decide +kernel⟩
theorem x_yX7_brings : wLV yX7_brings := ⟨wIn 1055 (by decide +kernel) rfl, wIn 21 (by decide +kernel) rfl⟩
theorem k_RX7_63 : wLk RX7 63 yX7_brings := wIn 1053 (by decide +kernel) rfl
theorem b_yX7_today : wLB yX7_today cX7_today 1 (some .int) 0 := ⟨wIn 89 (by decide +kernel) rfl, wIn 1071 (by decide +kernel) rfl, by decide +kernel, by decide +kernel, rfl, by decide, by decide +kernel⟩
theorem x_yX7_today : wLV yX7_today := ⟨wIn 1070 (by decide +kernel) rfl, wIn 23 (by decide +kernel) rfl⟩
theorem k_RX7_66 : wLk RX7 66 yX7_today := wIn 1068 (by decide +kernel) rfl
theorem b_yX7_records : wLB yX7_records cX7_records 1 (none) 0 := ⟨wIn 89 (by decide +kernel) rfl, wIn 1083 (by decide +kernel) rfl, by decide +kernel, by decide +kernel, rfl, by decide, by decide +kernel⟩
theorem x_yX7_records : wLV yX7_records := ⟨wIn 1082 (by decide +kernel) rfl, wIn 25 (by decide +kernel) rfl⟩
theorem k_RX7_70 : wLk RX7 70 yX7_records := wIn 1080 (by decide +kernel) rfl
theorem b_yX7_monthLength : wLB yX7_monthLength cX7_monthLength 2 (some .int) 1 := ⟨wIn 89 (by decide +kernel) rfl, wIn 1109 (by decide +kernel) rfl, by decide +kernel, by decide +kernel, rfl, by decide, by decide +kernel⟩
theorem x_yX7_monthLength : wLS yX7_monthLength := wIn 1108 (by decide +kernel) rfl
theorem k_RX7_75 : wLk RX7 75 yX7_monthLength := wIn 1107 (by decide +kernel) rfl
theorem b_yX7_monthStart : wLB yX7_monthStart cX7_monthStart 3 (some .int) 1 := ⟨wIn 89 (by decide +kernel) rfl, wIn 1106 (by decide +kernel) rfl, by decide +kernel, by decide +kernel, rfl, by decide, by decide +kernel⟩
theorem x_yX7_monthStart : wLS yX7_monthStart := wIn 1105 (by decide +kernel) rfl
theorem k_RX7_78 : wLk RX7 78 yX7_monthStart := wIn 1104 (by decide +kernel) rfl
theorem b_yX7_weekdayOf : wLB yX7_weekdayOf cX7_weekdayOf 2 (some .int) 1 := ⟨wIn 89 (by decide +kernel) rfl, wIn 1100 (by decide +kernel) rfl, by decide +kernel, by decide +kernel, rfl, by decide, by decide +kernel⟩
theorem x_yX7_weekdayOf : wLV yX7_weekdayOf := ⟨wIn 1099 (by decide +kernel) rfl, wIn 27 (by decide +kernel) rfl⟩
theorem k_RX7_81 : wLk RX7 81 yX7_weekdayOf := wIn 1097 (by decide +kernel) rfl
theorem b_yX7_isHoliday : wLB yX7_isHoliday cX7_isHoliday 4 (some .boolean) 1 := ⟨wIn 89 (by decide +kernel) rfl, wIn 1117 (by decide +kernel) rfl, by decide +kernel, by decide +kernel, rfl, by decide, by decide +kernel⟩
theorem x_yX7_isHoliday : wLV yX7_isHoliday := ⟨wIn 1116 (by decide +kernel) rfl, wIn 29 (by decide +kernel) rfl⟩
theorem k_RX7_84 : wLk RX7 84 yX7_isHoliday := wIn 1114 (by decide +kernel) rfl
theorem b_yX7_isBusiness : wLB yX7_isBusiness cX7_isBusiness 2 (some .boolean) 1 := ⟨wIn 89 (by decide +kernel) rfl, wIn 1113 (by decide +kernel) rfl, by decide +kernel, by decide +kernel, rfl, by decide, by decide +kernel⟩
theorem x_yX7_isBusiness : wLV yX7_isBusiness := ⟨wIn 1112 (by decide +kernel) rfl, wIn 28 (by decide +kernel) rfl⟩
theorem k_RX7_88 : wLk RX7 88 yX7_isBusiness := wIn 1110 (by decide +kernel) rfl
theorem b_yX7_isDay : wLB yX7_isDay cX7_isDay 1 (some .boolean) 1 := ⟨wIn 89 (by decide +kernel) rfl, wIn 1095 (by decide +kernel) rfl, by decide +kernel, by decide +kernel, rfl, by decide, by decide +kernel⟩
theorem x_yX7_isDay : wLS yX7_isDay := wIn 1094 (by decide +kernel) rfl
theorem k_RX7_91 : wLk RX7 91 yX7_isDay := wIn 1093 (by decide +kernel) rfl
theorem b_yX7_monthOf : wLB yX7_monthOf cX7_monthOf 2 (some .int) 1 := ⟨wIn 89 (by decide +kernel) rfl, wIn 1103 (by decide +kernel) rfl, by decide +kernel, by decide +kernel, rfl, by decide, by decide +kernel⟩
theorem x_yX7_monthOf : wLS yX7_monthOf := wIn 1102 (by decide +kernel) rfl
theorem k_RX7_94 : wLk RX7 94 yX7_monthOf := wIn 1101 (by decide +kernel) rfl
theorem b_yX7_nextBusiness : wLB yX7_nextBusiness cX7_nextBusiness 3 (some .int) 1 := ⟨wIn 89 (by decide +kernel) rfl, wIn 1121 (by decide +kernel) rfl, by decide +kernel, by decide +kernel, rfl, by decide, by decide +kernel⟩
theorem x_yX7_nextBusiness : wLV yX7_nextBusiness := ⟨wIn 1120 (by decide +kernel) rfl, wIn 30 (by decide +kernel) rfl⟩
theorem k_RX7_97 : wLk RX7 97 yX7_nextBusiness := wIn 1118 (by decide +kernel) rfl
theorem b_yX7_lastBusiness : wLB yX7_lastBusiness cX7_lastBusiness 3 (some .int) 1 := ⟨wIn 89 (by decide +kernel) rfl, wIn 1125 (by decide +kernel) rfl, by decide +kernel, by decide +kernel, rfl, by decide, by decide +kernel⟩
theorem x_yX7_lastBusiness : wLV yX7_lastBusiness := ⟨wIn 1124 (by decide +kernel) rfl, wIn 31 (by decide +kernel) rfl⟩
theorem k_RX7_100 : wLk RX7 100 yX7_lastBusiness := wIn 1122 (by decide +kernel) rfl
theorem b_yX7_shifted : wLB yX7_shifted cX7_shifted 5 (some .int) 2 := ⟨wIn 89 (by decide +kernel) rfl, wIn 1134 (by decide +kernel) rfl, by decide +kernel, by decide +kernel, rfl, by decide, by decide +kernel⟩
theorem x_yX7_shifted : wLV yX7_shifted := ⟨wIn 1133 (by decide +kernel) rfl, wIn 32 (by decide +kernel) rfl⟩
theorem k_RX7_105 : wLk RX7 105 yX7_shifted := wIn 1131 (by decide +kernel) rfl
theorem b_yX7_isSetting : wLB yX7_isSetting cX7_isSetting 3 (some .boolean) 2 := ⟨wIn 89 (by decide +kernel) rfl, wIn 1142 (by decide +kernel) rfl, by decide +kernel, by decide +kernel, rfl, by decide, by decide +kernel⟩
theorem x_yX7_isSetting : wLV yX7_isSetting := ⟨wIn 1141 (by decide +kernel) rfl, wIn 33 (by decide +kernel) rfl⟩
theorem k_RX7_117 : wLk RX7 117 yX7_isSetting := wIn 1139 (by decide +kernel) rfl
theorem b_yX7_isAccount : wLB yX7_isAccount cX7_isAccount 2 (some .boolean) 1 := ⟨wIn 89 (by decide +kernel) rfl, wIn 1166 (by decide +kernel) rfl, by decide +kernel, by decide +kernel, rfl, by decide, by decide +kernel⟩
theorem x_yX7_isAccount : wLV yX7_isAccount := ⟨wIn 1165 (by decide +kernel) rfl, wIn 34 (by decide +kernel) rfl⟩
theorem k_RX7_129 : wLk RX7 129 yX7_isAccount := wIn 1163 (by decide +kernel) rfl
theorem b_yX7_ofA : wLB yX7_ofA cX7_ofA 3 (some .int) 2 := ⟨wIn 89 (by decide +kernel) rfl, wIn 1170 (by decide +kernel) rfl, by decide +kernel, by decide +kernel, rfl, by decide, by decide +kernel⟩
theorem x_yX7_ofA : wLV yX7_ofA := ⟨wIn 1169 (by decide +kernel) rfl, wIn 35 (by decide +kernel) rfl⟩
theorem k_RX7_132 : wLk RX7 132 yX7_ofA := wIn 1167 (by decide +kernel) rfl
theorem b_yX7_moves : wLB yX7_moves cX7_moves 5 (none) 3 := ⟨wIn 89 (by decide +kernel) rfl, wIn 1187 (by decide +kernel) rfl, by decide +kernel, by decide +kernel, rfl, by decide, by decide +kernel⟩
theorem x_yX7_moves : wLV yX7_moves := ⟨wIn 1186 (by decide +kernel) rfl, wIn 38 (by decide +kernel) rfl⟩
theorem k_RX7_137 : wLk RX7 137 yX7_moves := wIn 1184 (by decide +kernel) rfl
theorem b_yX7_moneyOf : wLB yX7_moneyOf cX7_moneyOf 3 (some .long) 2 := ⟨wIn 89 (by decide +kernel) rfl, wIn 1191 (by decide +kernel) rfl, by decide +kernel, by decide +kernel, rfl, by decide, by decide +kernel⟩
theorem x_yX7_moneyOf : wLV yX7_moneyOf := ⟨wIn 1190 (by decide +kernel) rfl, wIn 39 (by decide +kernel) rfl⟩
theorem k_RX7_141 : wLk RX7 141 yX7_moneyOf := wIn 1188 (by decide +kernel) rfl
theorem b_yX7_checksDeposit : wLB yX7_checksDeposit cX7_checksDeposit 3 (some .int) 2 := ⟨wIn 89 (by decide +kernel) rfl, wIn 1178 (by decide +kernel) rfl, by decide +kernel, by decide +kernel, rfl, by decide, by decide +kernel⟩
theorem x_yX7_checksDeposit : wLV yX7_checksDeposit := ⟨wIn 1177 (by decide +kernel) rfl, wIn 36 (by decide +kernel) rfl⟩
theorem k_RX7_145 : wLk RX7 145 yX7_checksDeposit := wIn 1175 (by decide +kernel) rfl
theorem b_yX7_deposits : wLB yX7_deposits cX7_deposits 3 (some .int) 2 := ⟨wIn 89 (by decide +kernel) rfl, wIn 1183 (by decide +kernel) rfl, by decide +kernel, by decide +kernel, rfl, by decide, by decide +kernel⟩
theorem x_yX7_deposits : wLV yX7_deposits := ⟨wIn 1182 (by decide +kernel) rfl, wIn 37 (by decide +kernel) rfl⟩
theorem k_RX7_148 : wLk RX7 148 yX7_deposits := wIn 1180 (by decide +kernel) rfl
theorem b_yX7_ofO : wLB yX7_ofO cX7_ofO 3 (some .int) 2 := ⟨wIn 89 (by decide +kernel) rfl, wIn 1204 (by decide +kernel) rfl, by decide +kernel, by decide +kernel, rfl, by decide, by decide +kernel⟩
theorem x_yX7_ofO : wLV yX7_ofO := ⟨wIn 1203 (by decide +kernel) rfl, wIn 41 (by decide +kernel) rfl⟩
theorem k_RX7_151 : wLk RX7 151 yX7_ofO := wIn 1201 (by decide +kernel) rfl
theorem b_yX7_dayIn : wLB yX7_dayIn cX7_dayIn 3 (some .int) 2 := ⟨wIn 89 (by decide +kernel) rfl, wIn 1215 (by decide +kernel) rfl, by decide +kernel, by decide +kernel, rfl, by decide, by decide +kernel⟩
theorem x_yX7_dayIn : wLS yX7_dayIn := wIn 1214 (by decide +kernel) rfl
theorem k_RX7_154 : wLk RX7 154 yX7_dayIn := wIn 1213 (by decide +kernel) rfl
theorem b_yX7_lastOf : wLB yX7_lastOf cX7_lastOf 4 (some .int) 1 := ⟨wIn 89 (by decide +kernel) rfl, wIn 1219 (by decide +kernel) rfl, by decide +kernel, by decide +kernel, rfl, by decide, by decide +kernel⟩
theorem x_yX7_lastOf : wLV yX7_lastOf := ⟨wIn 1218 (by decide +kernel) rfl, wIn 44 (by decide +kernel) rfl⟩
theorem k_RX7_157 : wLk RX7 157 yX7_lastOf := wIn 1216 (by decide +kernel) rfl
theorem b_yX7_nominal : wLB yX7_nominal cX7_nominal 8 (some .int) 2 := ⟨wIn 89 (by decide +kernel) rfl, wIn 1212 (by decide +kernel) rfl, by decide +kernel, by decide +kernel, rfl, by decide, by decide +kernel⟩
theorem x_yX7_nominal : wLV yX7_nominal := ⟨wIn 1211 (by decide +kernel) rfl, wIn 43 (by decide +kernel) rfl⟩
theorem k_RX7_160 : wLk RX7 160 yX7_nominal := wIn 1209 (by decide +kernel) rfl
theorem b_yX7_occurrence : wLB yX7_occurrence cX7_occurrence 4 (some .int) 2 := ⟨wIn 89 (by decide +kernel) rfl, wIn 1208 (by decide +kernel) rfl, by decide +kernel, by decide +kernel, rfl, by decide, by decide +kernel⟩
theorem x_yX7_occurrence : wLV yX7_occurrence := ⟨wIn 1207 (by decide +kernel) rfl, wIn 42 (by decide +kernel) rfl⟩
theorem k_RX7_163 : wLk RX7 163 yX7_occurrence := wIn 1205 (by decide +kernel) rfl
theorem b_yX7_dateBy : wLB yX7_dateBy cX7_dateBy 3 (some .int) 2 := ⟨wIn 89 (by decide +kernel) rfl, wIn 1223 (by decide +kernel) rfl, by decide +kernel, by decide +kernel, rfl, by decide, by decide +kernel⟩
theorem x_yX7_dateBy : wLV yX7_dateBy := ⟨wIn 1222 (by decide +kernel) rfl, wIn 45 (by decide +kernel) rfl⟩
theorem k_RX7_166 : wLk RX7 166 yX7_dateBy := wIn 1220 (by decide +kernel) rfl
theorem b_yX7_becomes : wLB yX7_becomes cX7_becomes 4 (none) 3 := ⟨wIn 89 (by decide +kernel) rfl, wIn 1244 (by decide +kernel) rfl, by decide +kernel, by decide +kernel, rfl, by decide, by decide +kernel⟩
theorem x_yX7_becomes : wLV yX7_becomes := ⟨wIn 1243 (by decide +kernel) rfl, wIn 48 (by decide +kernel) rfl⟩
theorem k_RX7_169 : wLk RX7 169 yX7_becomes := wIn 1241 (by decide +kernel) rfl
theorem b_yX7_isOrder : wLB yX7_isOrder cX7_isOrder 2 (some .boolean) 1 := ⟨wIn 89 (by decide +kernel) rfl, wIn 1199 (by decide +kernel) rfl, by decide +kernel, by decide +kernel, rfl, by decide, by decide +kernel⟩
theorem x_yX7_isOrder : wLV yX7_isOrder := ⟨wIn 1198 (by decide +kernel) rfl, wIn 40 (by decide +kernel) rfl⟩
theorem k_RX7_173 : wLk RX7 173 yX7_isOrder := wIn 1196 (by decide +kernel) rfl
theorem b_yX7_leavesOut : wLB yX7_leavesOut cX7_leavesOut 4 (some .int) 1 := ⟨wIn 89 (by decide +kernel) rfl, wIn 1248 (by decide +kernel) rfl, by decide +kernel, by decide +kernel, rfl, by decide, by decide +kernel⟩
theorem x_yX7_leavesOut : wLV yX7_leavesOut := ⟨wIn 1247 (by decide +kernel) rfl, wIn 49 (by decide +kernel) rfl⟩
theorem k_RX7_188 : wLk RX7 188 yX7_leavesOut := wIn 1245 (by decide +kernel) rfl
theorem b_yX7_checksOrder : wLB yX7_checksOrder cX7_checksOrder 10 (some .int) 6 := ⟨wIn 89 (by decide +kernel) rfl, wIn 1231 (by decide +kernel) rfl, by decide +kernel, by decide +kernel, rfl, by decide, by decide +kernel⟩
theorem x_yX7_checksOrder : wLV yX7_checksOrder := ⟨wIn 1230 (by decide +kernel) rfl, wIn 46 (by decide +kernel) rfl⟩
theorem k_RX7_191 : wLk RX7 191 yX7_checksOrder := wIn 1228 (by decide +kernel) rfl
theorem b_yX7_makes : wLB yX7_makes cX7_makes 9 (some .int) 6 := ⟨wIn 89 (by decide +kernel) rfl, wIn 1240 (by decide +kernel) rfl, by decide +kernel, by decide +kernel, rfl, by decide, by decide +kernel⟩
theorem x_yX7_makes : wLV yX7_makes := ⟨wIn 1239 (by decide +kernel) rfl, wIn 47 (by decide +kernel) rfl⟩
theorem k_RX7_195 : wLk RX7 195 yX7_makes := wIn 1237 (by decide +kernel) rfl
theorem b_yX7_partOf : wLB yX7_partOf cX7_partOf 5 (some .int) 2 := ⟨wIn 89 (by decide +kernel) rfl, wIn 1272 (by decide +kernel) rfl, by decide +kernel, by decide +kernel, rfl, by decide, by decide +kernel⟩
theorem x_yX7_partOf : wLV yX7_partOf := ⟨wIn 1271 (by decide +kernel) rfl, wIn 53 (by decide +kernel) rfl⟩
theorem k_RX7_210 : wLk RX7 210 yX7_partOf := wIn 1269 (by decide +kernel) rfl
theorem b_yX7_waitsOf : wLB yX7_waitsOf cX7_waitsOf 4 (some .int) 1 := ⟨wIn 89 (by decide +kernel) rfl, wIn 1268 (by decide +kernel) rfl, by decide +kernel, by decide +kernel, rfl, by decide, by decide +kernel⟩
theorem x_yX7_waitsOf : wLV yX7_waitsOf := ⟨wIn 1267 (by decide +kernel) rfl, wIn 52 (by decide +kernel) rfl⟩
theorem k_RX7_213 : wLk RX7 213 yX7_waitsOf := wIn 1265 (by decide +kernel) rfl
theorem b_yX7_checksState : wLB yX7_checksState cX7_checksState 3 (some .int) 2 := ⟨wIn 89 (by decide +kernel) rfl, wIn 1260 (by decide +kernel) rfl, by decide +kernel, by decide +kernel, rfl, by decide, by decide +kernel⟩
theorem x_yX7_checksState : wLV yX7_checksState := ⟨wIn 1259 (by decide +kernel) rfl, wIn 50 (by decide +kernel) rfl⟩
theorem k_RX7_216 : wLk RX7 216 yX7_checksState := wIn 1257 (by decide +kernel) rfl
theorem b_yX7_stops : wLB yX7_stops cX7_stops 2 (some .int) 1 := ⟨wIn 89 (by decide +kernel) rfl, wIn 1264 (by decide +kernel) rfl, by decide +kernel, by decide +kernel, rfl, by decide, by decide +kernel⟩
theorem x_yX7_stops : wLV yX7_stops := ⟨wIn 1263 (by decide +kernel) rfl, wIn 51 (by decide +kernel) rfl⟩
theorem k_RX7_219 : wLk RX7 219 yX7_stops := wIn 1261 (by decide +kernel) rfl
theorem b_yX7_goesOn : wLB yX7_goesOn cX7_goesOn 2 (some .int) 1 := ⟨wIn 89 (by decide +kernel) rfl, wIn 1286 (by decide +kernel) rfl, by decide +kernel, by decide +kernel, rfl, by decide, by decide +kernel⟩
theorem x_yX7_goesOn : wLV yX7_goesOn := ⟨wIn 1285 (by decide +kernel) rfl, wIn 54 (by decide +kernel) rfl⟩
theorem k_RX7_222 : wLk RX7 222 yX7_goesOn := wIn 1283 (by decide +kernel) rfl
theorem b_yX7_removes : wLB yX7_removes cX7_removes 3 (none) 1 := ⟨wIn 89 (by decide +kernel) rfl, wIn 1298 (by decide +kernel) rfl, by decide +kernel, by decide +kernel, rfl, by decide, by decide +kernel⟩
theorem x_yX7_removes : wLV yX7_removes := ⟨wIn 1297 (by decide +kernel) rfl, wIn 56 (by decide +kernel) rfl⟩
theorem k_RX7_225 : wLk RX7 225 yX7_removes := wIn 1295 (by decide +kernel) rfl
theorem b_yX7_misses : wLB yX7_misses cX7_misses 2 (none) 1 := ⟨wIn 89 (by decide +kernel) rfl, wIn 1294 (by decide +kernel) rfl, by decide +kernel, by decide +kernel, rfl, by decide, by decide +kernel⟩
theorem x_yX7_misses : wLV yX7_misses := ⟨wIn 1293 (by decide +kernel) rfl, wIn 55 (by decide +kernel) rfl⟩
theorem k_RX7_228 : wLk RX7 228 yX7_misses := wIn 1291 (by decide +kernel) rfl
theorem b_yX7_hasLeft : wLB yX7_hasLeft cX7_hasLeft 2 (some .boolean) 1 := ⟨wIn 89 (by decide +kernel) rfl, wIn 1323 (by decide +kernel) rfl, by decide +kernel, by decide +kernel, rfl, by decide, by decide +kernel⟩
theorem x_yX7_hasLeft : wLV yX7_hasLeft := ⟨wIn 1322 (by decide +kernel) rfl, wIn 61 (by decide +kernel) rfl⟩
theorem k_RX7_231 : wLk RX7 231 yX7_hasLeft := wIn 1320 (by decide +kernel) rfl
theorem b_yX7_waitsFor : wLB yX7_waitsFor cX7_waitsFor 5 (some .long) 1 := ⟨wIn 89 (by decide +kernel) rfl, wIn 1331 (by decide +kernel) rfl, by decide +kernel, by decide +kernel, rfl, by decide, by decide +kernel⟩
theorem x_yX7_waitsFor : wLV yX7_waitsFor := ⟨wIn 1330 (by decide +kernel) rfl, wIn 63 (by decide +kernel) rfl⟩
theorem k_RX7_234 : wLk RX7 234 yX7_waitsFor := wIn 1328 (by decide +kernel) rfl
theorem b_yX7_isAhead : wLB yX7_isAhead cX7_isAhead 6 (some .boolean) 2 := ⟨wIn 89 (by decide +kernel) rfl, wIn 1343 (by decide +kernel) rfl, by decide +kernel, by decide +kernel, rfl, by decide, by decide +kernel⟩
theorem x_yX7_isAhead : wLV yX7_isAhead := ⟨wIn 1342 (by decide +kernel) rfl, wIn 66 (by decide +kernel) rfl⟩
theorem k_RX7_238 : wLk RX7 238 yX7_isAhead := wIn 1340 (by decide +kernel) rfl
theorem b_yX7_nextToTry : wLB yX7_nextToTry cX7_nextToTry 3 (some .int) 0 := ⟨wIn 89 (by decide +kernel) rfl, wIn 1339 (by decide +kernel) rfl, by decide +kernel, by decide +kernel, rfl, by decide, by decide +kernel⟩
theorem x_yX7_nextToTry : wLV yX7_nextToTry := ⟨wIn 1338 (by decide +kernel) rfl, wIn 65 (by decide +kernel) rfl⟩
theorem k_RX7_246 : wLk RX7 246 yX7_nextToTry := wIn 1336 (by decide +kernel) rfl
theorem b_yX7_tries : wLB yX7_tries cX7_tries 7 (none) 1 := ⟨wIn 89 (by decide +kernel) rfl, wIn 1347 (by decide +kernel) rfl, by decide +kernel, by decide +kernel, rfl, by decide, by decide +kernel⟩
theorem x_yX7_tries : wLV yX7_tries := ⟨wIn 1346 (by decide +kernel) rfl, wIn 67 (by decide +kernel) rfl⟩
theorem k_RX7_249 : wLk RX7 249 yX7_tries := wIn 1344 (by decide +kernel) rfl
theorem b_yX7_comesDue : wLB yX7_comesDue cX7_comesDue 6 (none) 1 := ⟨wIn 89 (by decide +kernel) rfl, wIn 1319 (by decide +kernel) rfl, by decide +kernel, by decide +kernel, rfl, by decide, by decide +kernel⟩
theorem x_yX7_comesDue : wLV yX7_comesDue := ⟨wIn 1318 (by decide +kernel) rfl, wIn 60 (by decide +kernel) rfl⟩
theorem k_RX7_255 : wLk RX7 255 yX7_comesDue := wIn 1316 (by decide +kernel) rfl
theorem b_yX7_sweeps : wLB yX7_sweeps cX7_sweeps 9 (none) 1 := ⟨wIn 89 (by decide +kernel) rfl, wIn 1327 (by decide +kernel) rfl, by decide +kernel, by decide +kernel, rfl, by decide, by decide +kernel⟩
theorem x_yX7_sweeps : wLV yX7_sweeps := ⟨wIn 1326 (by decide +kernel) rfl, wIn 62 (by decide +kernel) rfl⟩
theorem k_RX7_258 : wLk RX7 258 yX7_sweeps := wIn 1324 (by decide +kernel) rfl
theorem b_yX7_paysAll : wLB yX7_paysAll cX7_paysAll 3 (none) 0 := ⟨wIn 89 (by decide +kernel) rfl, wIn 1335 (by decide +kernel) rfl, by decide +kernel, by decide +kernel, rfl, by decide, by decide +kernel⟩
theorem x_yX7_paysAll : wLV yX7_paysAll := ⟨wIn 1334 (by decide +kernel) rfl, wIn 64 (by decide +kernel) rfl⟩
theorem k_RX7_261 : wLk RX7 261 yX7_paysAll := wIn 1332 (by decide +kernel) rfl
theorem b_yX7_owes : wLB yX7_owes cX7_owes 8 (none) 1 := ⟨wIn 89 (by decide +kernel) rfl, wIn 1352 (by decide +kernel) rfl, by decide +kernel, by decide +kernel, rfl, by decide, by decide +kernel⟩
theorem x_yX7_owes : wLV yX7_owes := ⟨wIn 1351 (by decide +kernel) rfl, wIn 68 (by decide +kernel) rfl⟩
theorem k_RX7_264 : wLk RX7 264 yX7_owes := wIn 1349 (by decide +kernel) rfl
theorem b_yX7_passesDay : wLB yX7_passesDay cX7_passesDay 2 (none) 0 := ⟨wIn 89 (by decide +kernel) rfl, wIn 1315 (by decide +kernel) rfl, by decide +kernel, by decide +kernel, rfl, by decide, by decide +kernel⟩
theorem x_yX7_passesDay : wLV yX7_passesDay := ⟨wIn 1314 (by decide +kernel) rfl, wIn 59 (by decide +kernel) rfl⟩
theorem k_RX7_269 : wLk RX7 269 yX7_passesDay := wIn 1312 (by decide +kernel) rfl
theorem b_yX7_checksDays : wLB yX7_checksDays cX7_checksDays 2 (some .int) 1 := ⟨wIn 89 (by decide +kernel) rfl, wIn 1306 (by decide +kernel) rfl, by decide +kernel, by decide +kernel, rfl, by decide, by decide +kernel⟩
theorem x_yX7_checksDays : wLV yX7_checksDays := ⟨wIn 1305 (by decide +kernel) rfl, wIn 57 (by decide +kernel) rfl⟩
theorem k_RX7_272 : wLk RX7 272 yX7_checksDays := wIn 1303 (by decide +kernel) rfl
theorem b_yX7_passesDays : wLB yX7_passesDays cX7_passesDays 3 (some .int) 1 := ⟨wIn 89 (by decide +kernel) rfl, wIn 1311 (by decide +kernel) rfl, by decide +kernel, by decide +kernel, rfl, by decide, by decide +kernel⟩
theorem x_yX7_passesDays : wLV yX7_passesDays := ⟨wIn 1310 (by decide +kernel) rfl, wIn 58 (by decide +kernel) rfl⟩
theorem k_RX7_275 : wLk RX7 275 yX7_passesDays := wIn 1308 (by decide +kernel) rfl
theorem b_yX7_bitsOf : wLB yX7_bitsOf cX7_bitsOf 6 (some .long) 1 := ⟨wIn 89 (by decide +kernel) rfl, wIn 1367 (by decide +kernel) rfl, by decide +kernel, by decide +kernel, rfl, by decide, by decide +kernel⟩
theorem x_yX7_bitsOf : wLS yX7_bitsOf := wIn 1366 (by decide +kernel) rfl
theorem k_RX7_288 : wLk RX7 288 yX7_bitsOf := wIn 1365 (by decide +kernel) rfl
theorem b_yX7_failsIn : wLB yX7_failsIn cX7_failsIn 5 (some .int) 2 := ⟨wIn 89 (by decide +kernel) rfl, wIn 1397 (by decide +kernel) rfl, by decide +kernel, by decide +kernel, rfl, by decide, by decide +kernel⟩
theorem x_yX7_failsIn : wLV yX7_failsIn := ⟨wIn 1396 (by decide +kernel) rfl, wIn 69 (by decide +kernel) rfl⟩
theorem k_RX7_301 : wLk RX7 301 yX7_failsIn := wIn 1394 (by decide +kernel) rfl
theorem b_yX7_passes : wLB yX7_passes cX7_passes 3 (some .boolean) 2 := ⟨wIn 89 (by decide +kernel) rfl, wIn 1430 (by decide +kernel) rfl, by decide +kernel, by decide +kernel, rfl, by decide, by decide +kernel⟩
theorem x_yX7_passes : wLV yX7_passes := ⟨wIn 1429 (by decide +kernel) rfl, wIn 71 (by decide +kernel) rfl⟩
theorem k_RX7_323 : wLk RX7 323 yX7_passes := wIn 1427 (by decide +kernel) rfl
theorem b_yX7_isDigitHere : wLB yX7_isDigitHere cX7_isDigitHere 1 (some .boolean) 0 := ⟨wIn 89 (by decide +kernel) rfl, wIn 1446 (by decide +kernel) rfl, by decide +kernel, by decide +kernel, rfl, by decide, by decide +kernel⟩
theorem x_yX7_isDigitHere : wLV yX7_isDigitHere := ⟨wIn 1445 (by decide +kernel) rfl, wIn 75 (by decide +kernel) rfl⟩
theorem k_RX7_326 : wLk RX7 326 yX7_isDigitHere := wIn 1443 (by decide +kernel) rfl
theorem b_yX7_passesOne : wLB yX7_passesOne cX7_passesOne 5 (some .int) 4 := ⟨wIn 89 (by decide +kernel) rfl, wIn 1453 (by decide +kernel) rfl, by decide +kernel, by decide +kernel, rfl, by decide, by decide +kernel⟩
theorem x_yX7_passesOne : wLV yX7_passesOne := ⟨wIn 1452 (by decide +kernel) rfl, wIn 76 (by decide +kernel) rfl⟩
theorem k_RX7_337 : wLk RX7 337 yX7_passesOne := wIn 1450 (by decide +kernel) rfl
theorem b_yX7_passesParties : wLB yX7_passesParties cX7_passesParties 1 (some .boolean) 0 := ⟨wIn 89 (by decide +kernel) rfl, wIn 1438 (by decide +kernel) rfl, by decide +kernel, by decide +kernel, rfl, by decide, by decide +kernel⟩
theorem x_yX7_passesParties : wLV yX7_passesParties := ⟨wIn 1437 (by decide +kernel) rfl, wIn 73 (by decide +kernel) rfl⟩
theorem k_RX7_344 : wLk RX7 344 yX7_passesParties := wIn 1435 (by decide +kernel) rfl
theorem b_yX7_passesNumber : wLB yX7_passesNumber cX7_passesNumber 3 (some .boolean) 0 := ⟨wIn 89 (by decide +kernel) rfl, wIn 1442 (by decide +kernel) rfl, by decide +kernel, by decide +kernel, rfl, by decide, by decide +kernel⟩
theorem x_yX7_passesNumber : wLV yX7_passesNumber := ⟨wIn 1441 (by decide +kernel) rfl, wIn 74 (by decide +kernel) rfl⟩
theorem k_RX7_347 : wLk RX7 347 yX7_passesNumber := wIn 1439 (by decide +kernel) rfl
theorem b_yX7_passesRule : wLB yX7_passesRule cX7_passesRule 1 (some .boolean) 0 := ⟨wIn 89 (by decide +kernel) rfl, wIn 1457 (by decide +kernel) rfl, by decide +kernel, by decide +kernel, rfl, by decide, by decide +kernel⟩
theorem x_yX7_passesRule : wLV yX7_passesRule := ⟨wIn 1456 (by decide +kernel) rfl, wIn 77 (by decide +kernel) rfl⟩
theorem k_RX7_362 : wLk RX7 362 yX7_passesRule := wIn 1454 (by decide +kernel) rfl
theorem b_yX7_passesNewOrder : wLB yX7_passesNewOrder cX7_passesNewOrder 1 (some .boolean) 0 := ⟨wIn 89 (by decide +kernel) rfl, wIn 1434 (by decide +kernel) rfl, by decide +kernel, by decide +kernel, rfl, by decide, by decide +kernel⟩
theorem x_yX7_passesNewOrder : wLV yX7_passesNewOrder := ⟨wIn 1433 (by decide +kernel) rfl, wIn 72 (by decide +kernel) rfl⟩
theorem k_RX7_368 : wLk RX7 368 yX7_passesNewOrder := wIn 1431 (by decide +kernel) rfl
theorem b_yX7_passesDeposit : wLB yX7_passesDeposit cX7_passesDeposit 1 (some .boolean) 0 := ⟨wIn 89 (by decide +kernel) rfl, wIn 1461 (by decide +kernel) rfl, by decide +kernel, by decide +kernel, rfl, by decide, by decide +kernel⟩
theorem x_yX7_passesDeposit : wLV yX7_passesDeposit := ⟨wIn 1460 (by decide +kernel) rfl, wIn 78 (by decide +kernel) rfl⟩
theorem k_RX7_371 : wLk RX7 371 yX7_passesDeposit := wIn 1458 (by decide +kernel) rfl
theorem b_yX7_passesAct : wLB yX7_passesAct cX7_passesAct 2 (some .boolean) 0 := ⟨wIn 89 (by decide +kernel) rfl, wIn 1426 (by decide +kernel) rfl, by decide +kernel, by decide +kernel, rfl, by decide, by decide +kernel⟩
theorem x_yX7_passesAct : wLV yX7_passesAct := ⟨wIn 1425 (by decide +kernel) rfl, wIn 70 (by decide +kernel) rfl⟩
theorem k_RX7_374 : wLk RX7 374 yX7_passesAct := wIn 1423 (by decide +kernel) rfl
theorem b_yX7_doesNewOrder : wLB yX7_doesNewOrder cX7_doesNewOrder 4 (some .int) 0 := ⟨wIn 89 (by decide +kernel) rfl, wIn 1474 (by decide +kernel) rfl, by decide +kernel, by decide +kernel, rfl, by decide, by decide +kernel⟩
theorem x_yX7_doesNewOrder : wLV yX7_doesNewOrder := ⟨wIn 1473 (by decide +kernel) rfl, wIn 80 (by decide +kernel) rfl⟩
theorem k_RX7_377 : wLk RX7 377 yX7_doesNewOrder := wIn 1471 (by decide +kernel) rfl
theorem k_RX7_380 : wLk RX7 380 yX7_fault := wIn 1466 (by decide +kernel) rfl
theorem b_yX7_does : wLB yX7_does cX7_does 2 (some .int) 0 := ⟨wIn 89 (by decide +kernel) rfl, wIn 1470 (by decide +kernel) rfl, by decide +kernel, by decide +kernel, rfl, by decide, by decide +kernel⟩
theorem x_yX7_does : wLV yX7_does := ⟨wIn 1469 (by decide +kernel) rfl, wIn 79 (by decide +kernel) rfl⟩
theorem k_RX7_383 : wLk RX7 383 yX7_does := wIn 1467 (by decide +kernel) rfl
theorem b_yJ0_coder_7d493 : wLB yJ0_coder_7d493 cJ0_coder_7d493 1 (some .byte) 0 := ⟨wIn 93 (by decide +kernel) rfl, wIn 874 (by decide +kernel) rfl, by decide +kernel, by decide +kernel, rfl, by decide, by decide +kernel⟩
theorem x_yJ0_coder_7d493 : wLV yJ0_coder_7d493 := ⟨wIn 872 (by decide +kernel) rfl, wIn 873 (by decide +kernel) rfl⟩
theorem k_RJ0_335 : wLk RJ0 335 yJ0_coder_7d493 := wIn 871 (by decide +kernel) rfl
theorem b_yJ0_isLatin1_aae02 : wLB yJ0_isLatin1_aae02 cJ0_isLatin1_aae02 1 (some .boolean) 0 := ⟨wIn 93 (by decide +kernel) rfl, wIn 864 (by decide +kernel) rfl, by decide +kernel, by decide +kernel, rfl, by decide, by decide +kernel⟩
theorem x_yJ0_isLatin1_aae02 : wLV yJ0_isLatin1_aae02 := ⟨wIn 862 (by decide +kernel) rfl, wIn 863 (by decide +kernel) rfl⟩
theorem k_RJ0_492 : wLk RJ0 492 yJ0_isLatin1_aae02 := wIn 861 (by decide +kernel) rfl
theorem b_yJ0_length_8abf5 : wLB yJ0_length_8abf5 cJ0_length_8abf5 1 (some .int) 0 := ⟨wIn 93 (by decide +kernel) rfl, wIn 870 (by decide +kernel) rfl, by decide +kernel, by decide +kernel, rfl, by decide, by decide +kernel⟩
theorem x_yJ0_length_8abf5 : wLV yJ0_length_8abf5 := ⟨wIn 868 (by decide +kernel) rfl, wIn 869 (by decide +kernel) rfl⟩
theorem k_RJ0_505 : wLk RJ0 505 yJ0_length_8abf5 := wIn 867 (by decide +kernel) rfl
theorem b_yJ0_indexOf_7cf53 : wLB yJ0_indexOf_7cf53 cJ0_indexOf_7cf53 3 (some .int) 2 := ⟨wIn 93 (by decide +kernel) rfl, wIn 860 (by decide +kernel) rfl, by decide +kernel, by decide +kernel, rfl, by decide, by decide +kernel⟩
theorem x_yJ0_indexOf_7cf53 : wLV yJ0_indexOf_7cf53 := ⟨wIn 858 (by decide +kernel) rfl, wIn 859 (by decide +kernel) rfl⟩
theorem k_RJ0_633 : wLk RJ0 633 yJ0_indexOf_7cf53 := wIn 857 (by decide +kernel) rfl
theorem b_yJ1_indexOf_4cfef : wLB yJ1_indexOf_4cfef cJ1_indexOf_4cfef 4 (some .int) 4 := ⟨wIn 94 (by decide +kernel) rfl, wIn 877 (by decide +kernel) rfl, by decide +kernel, by decide +kernel, rfl, by decide, by decide +kernel⟩
theorem x_yJ1_indexOf_4cfef : wLS yJ1_indexOf_4cfef := wIn 876 (by decide +kernel) rfl
theorem k_RJ0_637 : wLk RJ0 637 yJ1_indexOf_4cfef := wIn 875 (by decide +kernel) rfl
theorem b_yJ2_indexOf_4cfef : wLB yJ2_indexOf_4cfef cJ2_indexOf_4cfef 4 (some .int) 4 := ⟨wIn 95 (by decide +kernel) rfl, wIn 890 (by decide +kernel) rfl, by decide +kernel, by decide +kernel, rfl, by decide, by decide +kernel⟩
theorem x_yJ2_indexOf_4cfef : wLS yJ2_indexOf_4cfef := wIn 889 (by decide +kernel) rfl
theorem k_RJ0_640 : wLk RJ0 640 yJ2_indexOf_4cfef := wIn 888 (by decide +kernel) rfl
theorem b_yJ3_checkFromToIndex_8c36e : wLB yJ3_checkFromToIndex_8c36e cJ3_checkFromToIndex_8c36e 4 (some .int) 4 := ⟨wIn 96 (by decide +kernel) rfl, wIn 910 (by decide +kernel) rfl, by decide +kernel, by decide +kernel, rfl, by decide, by decide +kernel⟩
theorem x_yJ3_checkFromToIndex_8c36e : wLS yJ3_checkFromToIndex_8c36e := wIn 909 (by decide +kernel) rfl
theorem k_RJ0_1062 : wLk RJ0 1062 yJ3_checkFromToIndex_8c36e := wIn 908 (by decide +kernel) rfl
theorem k_RJ1_38 : Cond.methodLink RJ1 38 Lib.Math.min.name ∈ wAll := wIn 884 (by decide +kernel) rfl
theorem b_yJ1_canEncode_9a6ad : wLB yJ1_canEncode_9a6ad cJ1_canEncode_9a6ad 1 (some .boolean) 1 := ⟨wIn 94 (by decide +kernel) rfl, wIn 880 (by decide +kernel) rfl, by decide +kernel, by decide +kernel, rfl, by decide, by decide +kernel⟩
theorem x_yJ1_canEncode_9a6ad : wLS yJ1_canEncode_9a6ad := wIn 879 (by decide +kernel) rfl
theorem k_RJ1_88 : wLk RJ1 88 yJ1_canEncode_9a6ad := wIn 878 (by decide +kernel) rfl
theorem k_RJ1_92 : Cond.methodLink RJ1 92 Lib.Math.max.name ∈ wAll := wIn 881 (by decide +kernel) rfl
theorem b_yJ1_indexOfChar_4cfef : wLB yJ1_indexOfChar_4cfef cJ1_indexOfChar_4cfef 6 (some .int) 4 := ⟨wIn 94 (by decide +kernel) rfl, wIn 887 (by decide +kernel) rfl, by decide +kernel, by decide +kernel, rfl, by decide, by decide +kernel⟩
theorem x_yJ1_indexOfChar_4cfef : wLS yJ1_indexOfChar_4cfef := wIn 886 (by decide +kernel) rfl
theorem k_RJ1_95 : wLk RJ1 95 yJ1_indexOfChar_4cfef := wIn 885 (by decide +kernel) rfl
theorem b_yJ2_length_9d52b : wLB yJ2_length_9d52b cJ2_length_9d52b 1 (some .int) 1 := ⟨wIn 95 (by decide +kernel) rfl, wIn 902 (by decide +kernel) rfl, by decide +kernel, by decide +kernel, rfl, by decide, by decide +kernel⟩
theorem x_yJ2_length_9d52b : wLS yJ2_length_9d52b := wIn 901 (by decide +kernel) rfl
theorem k_RJ2_48 : wLk RJ2 48 yJ2_length_9d52b := wIn 900 (by decide +kernel) rfl
theorem b_yJ2_getChar_3b067 : wLB yJ2_getChar_3b067 cJ2_getChar_3b067 2 (some .char) 2 := ⟨wIn 95 (by decide +kernel) rfl, wIn 916 (by decide +kernel) rfl, by decide +kernel, by decide +kernel, rfl, by decide, by decide +kernel⟩
theorem x_yJ2_getChar_3b067 : wLS yJ2_getChar_3b067 := wIn 915 (by decide +kernel) rfl
theorem k_RJ2_71 : wLk RJ2 71 yJ2_getChar_3b067 := wIn 914 (by decide +kernel) rfl
theorem b_yJ2_checkBoundsBeginEnd_d044e : wLB yJ2_checkBoundsBeginEnd_d044e cJ2_checkBoundsBeginEnd_d044e 3 (none) 3 := ⟨wIn 95 (by decide +kernel) rfl, wIn 899 (by decide +kernel) rfl, by decide +kernel, by decide +kernel, rfl, by decide, by decide +kernel⟩
theorem x_yJ2_checkBoundsBeginEnd_d044e : wLS yJ2_checkBoundsBeginEnd_d044e := wIn 898 (by decide +kernel) rfl
theorem k_RJ2_96 : wLk RJ2 96 yJ2_checkBoundsBeginEnd_d044e := wIn 897 (by decide +kernel) rfl
theorem b_yJ11_highSurrogate_5068e : wLB yJ11_highSurrogate_5068e cJ11_highSurrogate_5068e 1 (some .char) 1 := ⟨wIn 97 (by decide +kernel) rfl, wIn 931 (by decide +kernel) rfl, by decide +kernel, by decide +kernel, rfl, by decide, by decide +kernel⟩
theorem x_yJ11_highSurrogate_5068e : wLS yJ11_highSurrogate_5068e := wIn 930 (by decide +kernel) rfl
theorem k_RJ2_157 : wLk RJ2 157 yJ11_highSurrogate_5068e := wIn 929 (by decide +kernel) rfl
theorem b_yJ11_lowSurrogate_5068e : wLB yJ11_lowSurrogate_5068e cJ11_lowSurrogate_5068e 1 (some .char) 1 := ⟨wIn 97 (by decide +kernel) rfl, wIn 935 (by decide +kernel) rfl, by decide +kernel, by decide +kernel, rfl, by decide, by decide +kernel⟩
theorem x_yJ11_lowSurrogate_5068e : wLS yJ11_lowSurrogate_5068e := wIn 934 (by decide +kernel) rfl
theorem k_RJ2_161 : wLk RJ2 161 yJ11_lowSurrogate_5068e := wIn 933 (by decide +kernel) rfl
theorem b_yJ11_isValidCodePoint_9a6ad : wLB yJ11_isValidCodePoint_9a6ad cJ11_isValidCodePoint_9a6ad 2 (some .boolean) 1 := ⟨wIn 97 (by decide +kernel) rfl, wIn 928 (by decide +kernel) rfl, by decide +kernel, by decide +kernel, rfl, by decide, by decide +kernel⟩
theorem x_yJ11_isValidCodePoint_9a6ad : wLS yJ11_isValidCodePoint_9a6ad := wIn 927 (by decide +kernel) rfl
theorem k_RJ2_164 : wLk RJ2 164 yJ11_isValidCodePoint_9a6ad := wIn 926 (by decide +kernel) rfl
theorem k_RJ2_183 : Cond.methodLink RJ2 183 Lib.Math.min.name ∈ wAll := wIn 892 (by decide +kernel) rfl
theorem k_RJ2_224 : Cond.methodLink RJ2 224 Lib.Math.max.name ∈ wAll := wIn 891 (by decide +kernel) rfl
theorem b_yJ2_indexOfChar_4cfef : wLB yJ2_indexOfChar_4cfef cJ2_indexOfChar_4cfef 4 (some .int) 4 := ⟨wIn 95 (by decide +kernel) rfl, wIn 896 (by decide +kernel) rfl, by decide +kernel, by decide +kernel, rfl, by decide, by decide +kernel⟩
theorem x_yJ2_indexOfChar_4cfef : wLS yJ2_indexOfChar_4cfef := wIn 895 (by decide +kernel) rfl
theorem k_RJ2_228 : wLk RJ2 228 yJ2_indexOfChar_4cfef := wIn 894 (by decide +kernel) rfl
theorem b_yJ2_indexOfSupplementary_4cfef : wLB yJ2_indexOfSupplementary_4cfef cJ2_indexOfSupplementary_4cfef 7 (some .int) 4 := ⟨wIn 95 (by decide +kernel) rfl, wIn 925 (by decide +kernel) rfl, by decide +kernel, by decide +kernel, rfl, by decide, by decide +kernel⟩
theorem x_yJ2_indexOfSupplementary_4cfef : wLS yJ2_indexOfSupplementary_4cfef := wIn 924 (by decide +kernel) rfl
theorem k_RJ2_232 : wLk RJ2 232 yJ2_indexOfSupplementary_4cfef := wIn 923 (by decide +kernel) rfl
theorem b_yJ0_checkBoundsBeginEnd_23922 : wLB yJ0_checkBoundsBeginEnd_23922 cJ0_checkBoundsBeginEnd_23922 3 (none) 3 := ⟨wIn 93 (by decide +kernel) rfl, wIn 905 (by decide +kernel) rfl, by decide +kernel, by decide +kernel, rfl, by decide, by decide +kernel⟩
theorem x_yJ0_checkBoundsBeginEnd_23922 : wLS yJ0_checkBoundsBeginEnd_23922 := wIn 904 (by decide +kernel) rfl
theorem k_RJ2_241 : wLk RJ2 241 yJ0_checkBoundsBeginEnd_23922 := wIn 903 (by decide +kernel) rfl
theorem b_yJ2_indexOfCharUnsafe_4cfef : wLB yJ2_indexOfCharUnsafe_4cfef cJ2_indexOfCharUnsafe_4cfef 5 (some .int) 4 := ⟨wIn 95 (by decide +kernel) rfl, wIn 913 (by decide +kernel) rfl, by decide +kernel, by decide +kernel, rfl, by decide, by decide +kernel⟩
theorem x_yJ2_indexOfCharUnsafe_4cfef : wLS yJ2_indexOfCharUnsafe_4cfef := wIn 912 (by decide +kernel) rfl
theorem k_RJ2_244 : wLk RJ2 244 yJ2_indexOfCharUnsafe_4cfef := wIn 911 (by decide +kernel) rfl
theorem k_RJ7_304 : Cond.methodLink RJ7 304 Lib.Math.min.name ∈ wAll := wIn 472 (by decide +kernel) rfl
theorem b_yX4_init : wLB yX4_init cX4_init 1 (none) 0 := ⟨wIn 88 (by decide +kernel) rfl, wIn 350 (by decide +kernel) rfl, by decide +kernel, by decide +kernel, rfl, by decide, by decide +kernel⟩
theorem x_yX4_init : wLI yX4_init := ⟨rfl, wIn 349 (by decide +kernel) rfl⟩
theorem k_RX6_32 : wLN RX6 32 yX4_init := ⟨"StandingPayments", by simp [wNM, RX6]⟩
theorem k_RX1_46 : wLN RX1 46 yX6_isBetween := ⟨"StandingPayments", by simp [wNM, RX1]⟩
theorem b_yX1_init : wLB yX1_init cX1_init 1 (none) 0 := ⟨wIn 84 (by decide +kernel) rfl, wIn 116 (by decide +kernel) rfl, by decide +kernel, by decide +kernel, rfl, by decide, by decide +kernel⟩
theorem x_yX1_init : wLI yX1_init := ⟨rfl, wIn 115 (by decide +kernel) rfl⟩
theorem k_RX2_11 : wLN RX2 11 yX1_init := ⟨"StandingPayments", by simp [wNM, RX2]⟩
theorem b_yX5_init : wLB yX5_init cX5_init 1 (none) 0 := ⟨wIn 85 (by decide +kernel) rfl, wIn 139 (by decide +kernel) rfl, by decide +kernel, by decide +kernel, rfl, by decide, by decide +kernel⟩
theorem x_yX5_init : wLI yX5_init := ⟨rfl, wIn 138 (by decide +kernel) rfl⟩
theorem k_RX2_32 : wLN RX2 32 yX5_init := ⟨"StandingPayments", by simp [wNM, RX2]⟩
theorem b_yX0_init : wLB yX0_init cX0_init 1 (none) 0 := ⟨wIn 86 (by decide +kernel) rfl, wIn 161 (by decide +kernel) rfl, by decide +kernel, by decide +kernel, rfl, by decide, by decide +kernel⟩
theorem x_yX0_init : wLI yX0_init := ⟨rfl, wIn 160 (by decide +kernel) rfl⟩
theorem k_RX2_47 : wLN RX2 47 yX0_init := ⟨"StandingPayments", by simp [wNM, RX2]⟩
theorem b_yX3_init : wLB yX3_init cX3_init 1 (none) 0 := ⟨wIn 87 (by decide +kernel) rfl, wIn 220 (by decide +kernel) rfl, by decide +kernel, by decide +kernel, rfl, by decide, by decide +kernel⟩
theorem x_yX3_init : wLI yX3_init := ⟨rfl, wIn 219 (by decide +kernel) rfl⟩
theorem k_RX2_48 : wLN RX2 48 yX3_init := ⟨"StandingPayments", by simp [wNM, RX2]⟩
theorem k_RX2_77 : wLN RX2 77 yX6_isBetween := ⟨"StandingPayments", by simp [wNM, RX2]⟩
theorem k_RX4_17 : wLN RX4 17 yX6_isBetween := ⟨"StandingPayments", by simp [wNM, RX4]⟩
theorem c_RX6_104 : Cond.constantLong RX6 104 (jL (-1)) ∈ wAll := wIn 733 (by decide +kernel) rfl
theorem c_RX6_165 : Cond.constantLong RX6 165 (jL (-2)) ∈ wAll := wIn 796 (by decide +kernel) rfl
theorem c_RX6_175 : Cond.constant RX6 175 (iI (100000)) ∈ wAll := wIn 805 (by decide +kernel) rfl
theorem c_RX6_244 : Cond.constantLong RX6 244 (jL (1023)) ∈ wAll := wIn 746 (by decide +kernel) rfl
theorem c_RX6_246 : Cond.constantDouble RX6 246 (4611686018427387904) ∈ wAll := wIn 747 (by decide +kernel) rfl
theorem c_RX6_248 : Cond.constantDouble RX6 248 (4841369599423283200) ∈ wAll := wIn 748 (by decide +kernel) rfl
theorem c_RX0_53 : Cond.constantLong RX0 53 (jL (-2)) ∈ wAll := wIn 738 (by decide +kernel) rfl
theorem c_RX2_92 : Cond.constant RX2 92 (iI (1000000)) ∈ wAll := wIn 521 (by decide +kernel) rfl
theorem c_RX2_104 : Cond.constant RX2 104 (iI (100000000)) ∈ wAll := wIn 546 (by decide +kernel) rfl
theorem c_RX2_123 : Cond.constant RX2 123 (iI (39999)) ∈ wAll := wIn 558 (by decide +kernel) rfl
theorem c_RX2_269 : Cond.constantFloat RX2 269 (1148846080) ∈ wAll := wIn 707 (by decide +kernel) rfl
theorem c_RX2_280 : Cond.constantDouble RX2 280 (4645128764097822720) ∈ wAll := wIn 710 (by decide +kernel) rfl
theorem c_RX4_15 : Cond.constantLong RX4 15 (jL (255)) ∈ wAll := wIn 818 (by decide +kernel) rfl
theorem c_RL_111 : Cond.constantLong RL 111 (jL (4294967295)) ∈ wAll := wIn 1475 (by decide +kernel) rfl
theorem c_RX7_26 : Cond.constant RX7 26 (iI (75600)) ∈ wAll := wIn 980 (by decide +kernel) rfl
theorem c_RX7_37 : Cond.constantLong RX7 37 (jL (3)) ∈ wAll := wIn 981 (by decide +kernel) rfl
theorem c_RX7_39 : Cond.constantLong RX7 39 (jL (250)) ∈ wAll := wIn 982 (by decide +kernel) rfl
theorem c_RX7_41 : Cond.constantLong RX7 41 (jL (120)) ∈ wAll := wIn 983 (by decide +kernel) rfl
theorem c_RX7_51 : Cond.constant RX7 51 (iI (42000)) ∈ wAll := wIn 1088 (by decide +kernel) rfl
theorem c_RX7_73 : Cond.constantLong RX7 73 (jL (1094)) ∈ wAll := wIn 1096 (by decide +kernel) rfl
theorem c_RX7_103 : Cond.constantLong RX7 103 (jL (4)) ∈ wAll := wIn 1130 (by decide +kernel) rfl
theorem c_RX7_109 : Cond.constantLong RX7 109 (jL (9)) ∈ wAll := wIn 1143 (by decide +kernel) rfl
theorem c_RX7_111 : Cond.constantLong RX7 111 (jL (10000)) ∈ wAll := wIn 1144 (by decide +kernel) rfl
theorem c_RX7_113 : Cond.constantLong RX7 113 (jL (1000)) ∈ wAll := wIn 1145 (by decide +kernel) rfl
theorem c_RX7_115 : Cond.constantLong RX7 115 (jL (6)) ∈ wAll := wIn 1146 (by decide +kernel) rfl
theorem c_RX7_121 : Cond.constantLong RX7 121 (jL (20)) ∈ wAll := wIn 1151 (by decide +kernel) rfl
theorem c_RX7_123 : Cond.constantLong RX7 123 (jL (1000000)) ∈ wAll := wIn 1156 (by decide +kernel) rfl
theorem c_RX7_125 : Cond.constantLong RX7 125 (jL (8)) ∈ wAll := wIn 1157 (by decide +kernel) rfl
theorem c_RX7_127 : Cond.constantLong RX7 127 (jL (-6)) ∈ wAll := wIn 1158 (by decide +kernel) rfl
theorem c_RX7_135 : Cond.constantLong RX7 135 (jL (100000000)) ∈ wAll := wIn 1179 (by decide +kernel) rfl
theorem c_RX7_176 : Cond.constantLong RX7 176 (jL (99)) ∈ wAll := wIn 1200 (by decide +kernel) rfl
theorem c_RX7_178 : Cond.constantLong RX7 178 (jL (39999)) ∈ wAll := wIn 1232 (by decide +kernel) rfl
theorem c_RX7_180 : Cond.constantLong RX7 180 (jL (12)) ∈ wAll := wIn 1233 (by decide +kernel) rfl
theorem c_RX7_182 : Cond.constantLong RX7 182 (jL (31)) ∈ wAll := wIn 1234 (by decide +kernel) rfl
theorem c_RX7_184 : Cond.constantLong RX7 184 (jL (49)) ∈ wAll := wIn 1235 (by decide +kernel) rfl
theorem c_RX7_186 : Cond.constantLong RX7 186 (jL (16)) ∈ wAll := wIn 1236 (by decide +kernel) rfl
theorem c_RX7_198 : Cond.constantLong RX7 198 (jL (1048576)) ∈ wAll := wIn 1273 (by decide +kernel) rfl
theorem c_RX7_200 : Cond.constantLong RX7 200 (jL (16777216)) ∈ wAll := wIn 1274 (by decide +kernel) rfl
theorem c_RX7_202 : Cond.constantLong RX7 202 (jL (2048)) ∈ wAll := wIn 1275 (by decide +kernel) rfl
theorem c_RX7_204 : Cond.constantLong RX7 204 (jL (34359738368)) ∈ wAll := wIn 1276 (by decide +kernel) rfl
theorem c_RX7_206 : Cond.constantLong RX7 206 (jL (70368744177664)) ∈ wAll := wIn 1277 (by decide +kernel) rfl
theorem c_RX7_208 : Cond.constantLong RX7 208 (jL (1125899906842624)) ∈ wAll := wIn 1278 (by decide +kernel) rfl
theorem c_RX7_244 : Cond.constantLong RX7 244 (jL (1196268651020288)) ∈ wAll := wIn 1348 (by decide +kernel) rfl
theorem c_RX7_252 : Cond.constantFloat RX7 252 (1148846080) ∈ wAll := wIn 1353 (by decide +kernel) rfl
theorem c_RX7_253 : Cond.constantDouble RX7 253 (4645128764097822720) ∈ wAll := wIn 1354 (by decide +kernel) rfl
theorem c_RX7_267 : Cond.constantLong RX7 267 (jL (400)) ∈ wAll := wIn 1307 (by decide +kernel) rfl
theorem c_RX7_278 : Cond.constantLong RX7 278 (jL (-1)) ∈ wAll := wIn 1359 (by decide +kernel) rfl
theorem c_RX7_280 : Cond.constantLong RX7 280 (jL (-2)) ∈ wAll := wIn 1360 (by decide +kernel) rfl
theorem c_RX7_282 : Cond.constantLong RX7 282 (jL (1023)) ∈ wAll := wIn 1368 (by decide +kernel) rfl
theorem c_RX7_284 : Cond.constantDouble RX7 284 (4611686018427387904) ∈ wAll := wIn 1369 (by decide +kernel) rfl
theorem c_RX7_286 : Cond.constantDouble RX7 286 (4841369599423283200) ∈ wAll := wIn 1370 (by decide +kernel) rfl
theorem c_RX7_292 : Cond.constantLong RX7 292 (jL (15)) ∈ wAll := wIn 1375 (by decide +kernel) rfl
theorem c_RX7_294 : Cond.constantLong RX7 294 (jL (11)) ∈ wAll := wIn 1384 (by decide +kernel) rfl
theorem c_RX7_296 : Cond.constantLong RX7 296 (jL (14)) ∈ wAll := wIn 1385 (by decide +kernel) rfl
theorem c_RX7_304 : Cond.constantLong RX7 304 (jL (100)) ∈ wAll := wIn 1402 (by decide +kernel) rfl
theorem c_RX7_306 : Cond.constant RX7 306 (iI (100000)) ∈ wAll := wIn 1403 (by decide +kernel) rfl
theorem c_RX7_307 : Cond.constantLong RX7 307 (jL (255)) ∈ wAll := wIn 1412 (by decide +kernel) rfl
theorem c_RX7_309 : Cond.constantLong RX7 309 (jL (33)) ∈ wAll := wIn 1413 (by decide +kernel) rfl
theorem c_RX7_311 : Cond.constantLong RX7 311 (jL (126)) ∈ wAll := wIn 1414 (by decide +kernel) rfl
theorem c_RX7_319 : Cond.constantLong RX7 319 (jL (48)) ∈ wAll := wIn 1447 (by decide +kernel) rfl
theorem c_RX7_321 : Cond.constantLong RX7 321 (jL (57)) ∈ wAll := wIn 1448 (by decide +kernel) rfl
theorem c_RX7_330 : Cond.constant RX7 330 (iI (99999)) ∈ wAll := wIn 1449 (by decide +kernel) rfl
theorem c_RJ11_76 : Cond.constant RJ11 76 (iI (56320)) ∈ wAll := wIn 936 (by decide +kernel) rfl
theorem c_RJ11_110 : Cond.constant RJ11 110 (iI (55232)) ∈ wAll := wIn 932 (by decide +kernel) rfl
theorem c_RJ2_227 : Cond.constant RJ2 227 (iI (65536)) ∈ wAll := wIn 893 (by decide +kernel) rfl
theorem l_RX6_9 : Cond.classLink RX6 9 "StandingPayments$House" ∈ wAll := wIn 106 (by decide +kernel) rfl
abbrev fs0_2 : List Value := [.null, .null, .null, .null, .int (iI 0), .int (iI 0), .int (iI 0), .int (iI 0), .int (iI 0), .int (iI 0), .int (iI 0), .int (iI 0)]
theorem w_RX6_9 : wNew RX6 9 2 12 fs0_2 := ⟨RX2, TX2, tyX2, rfl, wIn 106 (by decide +kernel) rfl, wIn 107 (by decide +kernel) rfl, wIn 83 (by decide +kernel) rfl, inW2, tyX2_ok, fun j hj => by rcases (show j = 0 ∨ j = 1 ∨ j = 2 ∨ j = 3 ∨ j = 4 ∨ j = 5 ∨ j = 6 ∨ j = 7 ∨ j = 8 ∨ j = 9 ∨ j = 10 ∨ j = 11 by omega) with rfl | rfl | rfl | rfl | rfl | rfl | rfl | rfl | rfl | rfl | rfl | rfl <;> rfl⟩
theorem l_RX6_30 : Cond.classLink RX6 30 "StandingPayments$Pad" ∈ wAll := wIn 346 (by decide +kernel) rfl
abbrev fs0_4 : List Value := [.null, .int (iI 0), .int (iI 0), .int (iI 0), .int (iI 0), .int (iI 0), .int (iI 0), .int (iI 0), .int (iI 0), .int (iI 0), .int (iI 0)]
theorem w_RX6_30 : wNew RX6 30 4 11 fs0_4 := ⟨RX4, TX4, tyX4, rfl, wIn 346 (by decide +kernel) rfl, wIn 347 (by decide +kernel) rfl, wIn 88 (by decide +kernel) rfl, inW4, tyX4_ok, fun j hj => by rcases (show j = 0 ∨ j = 1 ∨ j = 2 ∨ j = 3 ∨ j = 4 ∨ j = 5 ∨ j = 6 ∨ j = 7 ∨ j = 8 ∨ j = 9 ∨ j = 10 by omega) with rfl | rfl | rfl | rfl | rfl | rfl | rfl | rfl | rfl | rfl | rfl <;> rfl⟩
theorem l_RX2_9 : Cond.classLink RX2 9 "StandingPayments$Calendar" ∈ wAll := wIn 112 (by decide +kernel) rfl
abbrev fs0_1 : List Value := [.null, .int (iI 0), .int (iI 0)]
theorem w_RX2_9 : wNew RX2 9 1 3 fs0_1 := ⟨RX1, TX1, tyX1, rfl, wIn 112 (by decide +kernel) rfl, wIn 113 (by decide +kernel) rfl, wIn 84 (by decide +kernel) rfl, inW1, tyX1_ok, fun j hj => by rcases (show j = 0 ∨ j = 1 ∨ j = 2 by omega) with rfl | rfl | rfl <;> rfl⟩
theorem l_RX2_18 : Cond.classLink RX2 18 "StandingPayments$Account" ∈ wAll := wIn 131 (by decide +kernel) rfl
abbrev fs0_0 : List Value := [.int (iI 0), .int (iI 0), .int (iI 0), .long (jL 0), .long (jL 0), .long (jL 0), .long (jL 0), .long (jL 0), .long (jL 0), .long (jL 0), .long (jL 0), .long (jL 0), .double 0]
theorem w_RX2_18 : wNew RX2 18 0 13 fs0_0 := ⟨RX0, TX0, tyX0, rfl, wIn 131 (by decide +kernel) rfl, wIn 158 (by decide +kernel) rfl, wIn 86 (by decide +kernel) rfl, inW0, tyX0_ok, fun j hj => by rcases (show j = 0 ∨ j = 1 ∨ j = 2 ∨ j = 3 ∨ j = 4 ∨ j = 5 ∨ j = 6 ∨ j = 7 ∨ j = 8 ∨ j = 9 ∨ j = 10 ∨ j = 11 ∨ j = 12 by omega) with rfl | rfl | rfl | rfl | rfl | rfl | rfl | rfl | rfl | rfl | rfl | rfl | rfl <;> rfl⟩
theorem l_RX2_24 : Cond.classLink RX2 24 "StandingPayments$Order" ∈ wAll := wIn 133 (by decide +kernel) rfl
abbrev fs0_3 : List Value := [.int (iI 0), .int (iI 0), .int (iI 0), .int (iI 0), .int (iI 0), .int (iI 0), .int (iI 0), .int (iI 0), .int (iI 0), .int (iI 0), .int (iI 0), .int (iI 0), .int (iI 0), .int (iI 0), .int (iI 0), .int (iI 0), .int (iI 0), .int (iI 0), .int (iI 0), .int (iI 0)]
theorem w_RX2_24 : wNew RX2 24 3 20 fs0_3 := ⟨RX3, TX3, tyX3, rfl, wIn 133 (by decide +kernel) rfl, wIn 217 (by decide +kernel) rfl, wIn 87 (by decide +kernel) rfl, inW3, tyX3_ok, fun j hj => by rcases (show j = 0 ∨ j = 1 ∨ j = 2 ∨ j = 3 ∨ j = 4 ∨ j = 5 ∨ j = 6 ∨ j = 7 ∨ j = 8 ∨ j = 9 ∨ j = 10 ∨ j = 11 ∨ j = 12 ∨ j = 13 ∨ j = 14 ∨ j = 15 ∨ j = 16 ∨ j = 17 ∨ j = 18 ∨ j = 19 by omega) with rfl | rfl | rfl | rfl | rfl | rfl | rfl | rfl | rfl | rfl | rfl | rfl | rfl | rfl | rfl | rfl | rfl | rfl | rfl | rfl <;> rfl⟩
theorem l_RX2_30 : Cond.classLink RX2 30 "StandingPayments$Waiting" ∈ wAll := wIn 135 (by decide +kernel) rfl
abbrev fs0_5 : List Value := [.null, .int (iI 0), .int (iI 0)]
theorem w_RX2_30 : wNew RX2 30 5 3 fs0_5 := ⟨RX5, TX5, tyX5, rfl, wIn 135 (by decide +kernel) rfl, wIn 136 (by decide +kernel) rfl, wIn 85 (by decide +kernel) rfl, inW5, tyX5_ok, fun j hj => by rcases (show j = 0 ∨ j = 1 ∨ j = 2 by omega) with rfl | rfl | rfl <;> rfl⟩
theorem l_RX5_11 : Cond.classLink RX5 11 "[[I" ∈ wAll := wIn 141 (by decide +kernel) rfl
theorem l_RL_7 : Cond.classLink RL 7 "StandingPayments" ∈ wAll := wIn 98 (by decide +kernel) rfl
abbrev fs0_6 : List Value := [.null, .null, .null, .int (iI 0), .int (iI 0), .null, .null, .null]
theorem w_RL_7 : wNew RL 7 6 8 fs0_6 := ⟨RX6, TX6, tyX6, rfl, wIn 98 (by decide +kernel) rfl, wIn 99 (by decide +kernel) rfl, wIn 82 (by decide +kernel) rfl, inW6, tyX6_ok, fun j hj => by rcases (show j = 0 ∨ j = 1 ∨ j = 2 ∨ j = 3 ∨ j = 4 ∨ j = 5 ∨ j = 6 ∨ j = 7 by omega) with rfl | rfl | rfl | rfl | rfl | rfl | rfl | rfl <;> rfl⟩
theorem l_RL_10 : Cond.classLink RL 10 "StandingPaymentsModel" ∈ wAll := wIn 974 (by decide +kernel) rfl
abbrev fs0_7 : List Value := [.null, .null, .null, .null, .null, .null, .null, .int (iI 0), .int (iI 0), .null, .int (iI 0), .int (iI 0), .int (iI 0), .int (iI 0), .int (iI 0), .int (iI 0), .int (iI 0), .int (iI 0), .int (iI 0), .int (iI 0), .int (iI 0)]
theorem w_RL_10 : wNew RL 10 7 21 fs0_7 := ⟨RX7, TX7, tyX7, rfl, wIn 974 (by decide +kernel) rfl, wIn 975 (by decide +kernel) rfl, wIn 89 (by decide +kernel) rfl, inW7, tyX7_ok, fun j hj => by rcases (show j = 0 ∨ j = 1 ∨ j = 2 ∨ j = 3 ∨ j = 4 ∨ j = 5 ∨ j = 6 ∨ j = 7 ∨ j = 8 ∨ j = 9 ∨ j = 10 ∨ j = 11 ∨ j = 12 ∨ j = 13 ∨ j = 14 ∨ j = 15 ∨ j = 16 ∨ j = 17 ∨ j = 18 ∨ j = 19 ∨ j = 20 by omega) with rfl | rfl | rfl | rfl | rfl | rfl | rfl | rfl | rfl | rfl | rfl | rfl | rfl | rfl | rfl | rfl | rfl | rfl | rfl | rfl | rfl <;> rfl⟩
theorem l_RJ7_317 : Cond.classLink RJ7 317 "[I" ∈ wAll := wIn 471 (by decide +kernel) rfl
theorem ac_long : Cond.arrayClass .long ∈ wAll := wIn 130 (by decide +kernel) rfl
theorem ac_int : Cond.arrayClass .int ∈ wAll := wIn 157 (by decide +kernel) rfl
theorem ac_boolean : Cond.arrayClass .boolean ∈ wAll := wIn 396 (by decide +kernel) rfl
theorem ac_char : Cond.arrayClass .char ∈ wAll := wIn 397 (by decide +kernel) rfl
theorem ac_byte : Cond.arrayClass .byte ∈ wAll := wIn 951 (by decide +kernel) rfl
theorem ac_double : Cond.arrayClass .double ∈ wAll := wIn 1048 (by decide +kernel) rfl
theorem cp_nat : Cond.native arraycopyName ∈ wAll := wIn 445 (by decide +kernel) rfl
theorem cp_sta : Cond.static arraycopyName ∈ wAll := wIn 444 (by decide +kernel) rfl
theorem cp_ini : Cond.initialized "java/lang/System" ∈ wAll := wIn 90 (by decide +kernel) rfl
theorem k_RX6_3 : Cond.methodLink RX6 3 objectInit ∈ wAll := wIn 103 (by decide +kernel) rfl
theorem k_RX0_3 : Cond.methodLink RX0 3 objectInit ∈ wAll := wIn 162 (by decide +kernel) rfl
theorem k_RX1_3 : Cond.methodLink RX1 3 objectInit ∈ wAll := wIn 117 (by decide +kernel) rfl
theorem k_RX1_15 : Cond.methodLink RX1 15 arraycopyName ∈ wAll := wIn 443 (by decide +kernel) rfl
theorem k_RX2_3 : Cond.methodLink RX2 3 objectInit ∈ wAll := wIn 111 (by decide +kernel) rfl
theorem k_RX3_3 : Cond.methodLink RX3 3 objectInit ∈ wAll := wIn 221 (by decide +kernel) rfl
theorem k_RX4_3 : Cond.methodLink RX4 3 objectInit ∈ wAll := wIn 351 (by decide +kernel) rfl
theorem k_RX5_3 : Cond.methodLink RX5 3 objectInit ∈ wAll := wIn 140 (by decide +kernel) rfl
theorem k_RX5_27 : Cond.methodLink RX5 27 arraycopyName ∈ wAll := wIn 476 (by decide +kernel) rfl
theorem k_RX7_1 : Cond.methodLink RX7 1 objectInit ∈ wAll := wIn 979 (by decide +kernel) rfl
theorem k_RJ7_150 : Cond.methodLink RJ7 150 arraycopyName ∈ wAll := wIn 475 (by decide +kernel) rfl
theorem ob_i : Cond.instanceMethod objectInit ∈ wAll := wIn 104 (by decide +kernel) rfl
theorem ob_c : Cond.code objectInit ⟨#[0xb1]⟩ 1 none ∈ wAll := wIn 105 (by decide +kernel) rfl
theorem mt_min_s : Cond.static Lib.Math.min.name ∈ wAll := wIn 473 (by decide +kernel) rfl
theorem mt_min_c : Cond.code Lib.Math.min.name Lib.Math.min.code 2 (some .int) ∈ wAll := wIn 474 (by decide +kernel) rfl
theorem mt_max_s : Cond.static Lib.Math.max.name ∈ wAll := wIn 882 (by decide +kernel) rfl
theorem mt_max_c : Cond.code Lib.Math.max.name Lib.Math.max.code 2 (some .int) ∈ wAll := wIn 883 (by decide +kernel) rfl
theorem mt_minL_s : Cond.static Lib.MathLoose.min_long.x ∈ wAll := wIn 685 (by decide +kernel) rfl
theorem mt_minL_c : Cond.code Lib.MathLoose.min_long.x Lib.MathLoose.min_long.code 4 (some .long) ∈ wAll := wIn 686 (by decide +kernel) rfl
theorem mt_i : Cond.initialized "java/lang/Math" ∈ wAll := wIn 92 (by decide +kernel) rfl
theorem g_RX1_28 : Cond.fieldLink RX1 28 "StandingPayments$Calendar" "MONTH_STARTS" "[I" ∈ wAll := wIn 578 (by decide +kernel) rfl
theorem g_RJ0_9 : Cond.fieldLink RJ0 9 "java/lang/String" "value" "[B" ∈ wAll := wIn 1477 (by decide +kernel) rfl
theorem g_RJ0_15 : Cond.fieldLink RJ0 15 "java/lang/String" "coder" "B" ∈ wAll := wIn 1476 (by decide +kernel) rfl
theorem g_RJ0_38 : Cond.fieldLink RJ0 38 "java/lang/String" "COMPACT_STRINGS" "Z" ∈ wAll := wIn 865 (by decide +kernel) rfl
theorem g_RJ0_1053 : Cond.fieldLink RJ0 1053 "jdk/internal/util/Preconditions" "SIOOBE_FORMATTER" "Ljava/util/function/BiFunction;" ∈ wAll := wIn 906 (by decide +kernel) rfl
theorem g_RJ2_44 : Cond.fieldLink RJ2 44 "java/lang/StringUTF16" "$assertionsDisabled" "Z" ∈ wAll := wIn 917 (by decide +kernel) rfl
theorem g_RJ2_59 : Cond.fieldLink RJ2 59 "java/lang/StringUTF16" "HI_BYTE_SHIFT" "I" ∈ wAll := wIn 919 (by decide +kernel) rfl
theorem g_RJ2_63 : Cond.fieldLink RJ2 63 "java/lang/StringUTF16" "LO_BYTE_SHIFT" "I" ∈ wAll := wIn 921 (by decide +kernel) rfl
