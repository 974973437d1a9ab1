/-! ===== what the constants name (by program: wip/p33/gen_links.py) ===== -/
theorem inW0 : ∀ w ∈ u_ws RX0 TX0 13, w ∈ wAll := by
  show ∀ w ∈ [(Cond.lays RX0 (TX0 0).1 (TX0 0).2.1 (TX0 0).2.2.1 : Cond), (Cond.lays RX0 (TX0 1).1 (TX0 1).2.1 (TX0 1).2.2.1 : Cond), (Cond.lays RX0 (TX0 2).1 (TX0 2).2.1 (TX0 2).2.2.1 : Cond), (Cond.lays RX0 (TX0 3).1 (TX0 3).2.1 (TX0 3).2.2.1 : Cond), (Cond.lays RX0 (TX0 4).1 (TX0 4).2.1 (TX0 4).2.2.1 : Cond), (Cond.lays RX0 (TX0 5).1 (TX0 5).2.1 (TX0 5).2.2.1 : Cond), (Cond.lays RX0 (TX0 6).1 (TX0 6).2.1 (TX0 6).2.2.1 : Cond), (Cond.lays RX0 (TX0 7).1 (TX0 7).2.1 (TX0 7).2.2.1 : Cond), (Cond.lays RX0 (TX0 8).1 (TX0 8).2.1 (TX0 8).2.2.1 : Cond), (Cond.lays RX0 (TX0 9).1 (TX0 9).2.1 (TX0 9).2.2.1 : Cond), (Cond.lays RX0 (TX0 10).1 (TX0 10).2.1 (TX0 10).2.2.1 : Cond), (Cond.lays RX0 (TX0 11).1 (TX0 11).2.1 (TX0 11).2.2.1 : Cond), (Cond.lays RX0 (TX0 12).1 (TX0 12).2.1 (TX0 12).2.2.1 : Cond)], w ∈ wAll
  exact List.forall_mem_cons.mpr ⟨wIn 117 (by decide +kernel) rfl, List.forall_mem_cons.mpr ⟨wIn 119 (by decide +kernel) rfl, List.forall_mem_cons.mpr ⟨wIn 121 (by decide +kernel) rfl, List.forall_mem_cons.mpr ⟨wIn 123 (by decide +kernel) rfl, List.forall_mem_cons.mpr ⟨wIn 125 (by decide +kernel) rfl, List.forall_mem_cons.mpr ⟨wIn 127 (by decide +kernel) rfl, List.forall_mem_cons.mpr ⟨wIn 129 (by decide +kernel) rfl, List.forall_mem_cons.mpr ⟨wIn 131 (by decide +kernel) rfl, List.forall_mem_cons.mpr ⟨wIn 133 (by decide +kernel) rfl, List.forall_mem_cons.mpr ⟨wIn 135 (by decide +kernel) rfl, List.forall_mem_cons.mpr ⟨wIn 137 (by decide +kernel) rfl, List.forall_mem_cons.mpr ⟨wIn 139 (by decide +kernel) rfl, List.forall_mem_cons.mpr ⟨wIn 141 (by decide +kernel) rfl, fun _ h => absurd h List.not_mem_nil⟩⟩⟩⟩⟩⟩⟩⟩⟩⟩⟩⟩⟩
theorem inW1 : ∀ w ∈ u_ws RX1 TX1 3, w ∈ wAll := by
  show ∀ w ∈ [(Cond.laysFinal RX1 (TX1 0).1 (TX1 0).2.1 (TX1 0).2.2.1 : Cond), (Cond.lays RX1 (TX1 1).1 (TX1 1).2.1 (TX1 1).2.2.1 : Cond), (Cond.lays RX1 (TX1 2).1 (TX1 2).2.1 (TX1 2).2.2.1 : Cond)], w ∈ wAll
  exact List.forall_mem_cons.mpr ⟨wIn 50 (by decide +kernel) rfl, List.forall_mem_cons.mpr ⟨wIn 52 (by decide +kernel) rfl, List.forall_mem_cons.mpr ⟨wIn 54 (by decide +kernel) rfl, fun _ h => absurd h List.not_mem_nil⟩⟩⟩
theorem inW2 : ∀ w ∈ u_ws RX2 TX2 12, w ∈ wAll := by
  show ∀ w ∈ [(Cond.laysFinal RX2 (TX2 0).1 (TX2 0).2.1 (TX2 0).2.2.1 : Cond), (Cond.laysFinal RX2 (TX2 1).1 (TX2 1).2.1 (TX2 1).2.2.1 : Cond), (Cond.laysFinal RX2 (TX2 2).1 (TX2 2).2.1 (TX2 2).2.2.1 : Cond), (Cond.laysFinal RX2 (TX2 3).1 (TX2 3).2.1 (TX2 3).2.2.1 : Cond), (Cond.lays RX2 (TX2 4).1 (TX2 4).2.1 (TX2 4).2.2.1 : Cond), (Cond.lays RX2 (TX2 5).1 (TX2 5).2.1 (TX2 5).2.2.1 : Cond), (Cond.lays RX2 (TX2 6).1 (TX2 6).2.1 (TX2 6).2.2.1 : Cond), (Cond.lays RX2 (TX2 7).1 (TX2 7).2.1 (TX2 7).2.2.1 : Cond), (Cond.lays RX2 (TX2 8).1 (TX2 8).2.1 (TX2 8).2.2.1 : Cond), (Cond.lays RX2 (TX2 9).1 (TX2 9).2.1 (TX2 9).2.2.1 : Cond), (Cond.lays RX2 (TX2 10).1 (TX2 10).2.1 (TX2 10).2.2.1 : Cond), (Cond.lays RX2 (TX2 11).1 (TX2 11).2.1 (TX2 11).2.2.1 : Cond)], w ∈ wAll
  exact List.forall_mem_cons.mpr ⟨wIn 247 (by decide +kernel) rfl, List.forall_mem_cons.mpr ⟨wIn 249 (by decide +kernel) rfl, List.forall_mem_cons.mpr ⟨wIn 251 (by decide +kernel) rfl, List.forall_mem_cons.mpr ⟨wIn 253 (by decide +kernel) rfl, List.forall_mem_cons.mpr ⟨wIn 255 (by decide +kernel) rfl, List.forall_mem_cons.mpr ⟨wIn 257 (by decide +kernel) rfl, List.forall_mem_cons.mpr ⟨wIn 259 (by decide +kernel) rfl, List.forall_mem_cons.mpr ⟨wIn 261 (by decide +kernel) rfl, List.forall_mem_cons.mpr ⟨wIn 263 (by decide +kernel) rfl, List.forall_mem_cons.mpr ⟨wIn 265 (by decide +kernel) rfl, List.forall_mem_cons.mpr ⟨wIn 267 (by decide +kernel) rfl, List.forall_mem_cons.mpr ⟨wIn 269 (by decide +kernel) rfl, fun _ h => absurd h List.not_mem_nil⟩⟩⟩⟩⟩⟩⟩⟩⟩⟩⟩⟩
theorem inW3 : ∀ w ∈ u_ws RX3 TX3 20, w ∈ wAll := by
  show ∀ w ∈ [(Cond.lays RX3 (TX3 0).1 (TX3 0).2.1 (TX3 0).2.2.1 : Cond), (Cond.lays RX3 (TX3 1).1 (TX3 1).2.1 (TX3 1).2.2.1 : Cond), (Cond.lays RX3 (TX3 2).1 (TX3 2).2.1 (TX3 2).2.2.1 : Cond), (Cond.lays RX3 (TX3 3).1 (TX3 3).2.1 (TX3 3).2.2.1 : Cond), (Cond.lays RX3 (TX3 4).1 (TX3 4).2.1 (TX3 4).2.2.1 : Cond), (Cond.lays RX3 (TX3 5).1 (TX3 5).2.1 (TX3 5).2.2.1 : Cond), (Cond.lays RX3 (TX3 6).1 (TX3 6).2.1 (TX3 6).2.2.1 : Cond), (Cond.lays RX3 (TX3 7).1 (TX3 7).2.1 (TX3 7).2.2.1 : Cond), (Cond.lays RX3 (TX3 8).1 (TX3 8).2.1 (TX3 8).2.2.1 : Cond), (Cond.lays RX3 (TX3 9).1 (TX3 9).2.1 (TX3 9).2.2.1 : Cond), (Cond.lays RX3 (TX3 10).1 (TX3 10).2.1 (TX3 10).2.2.1 : Cond), (Cond.lays RX3 (TX3 11).1 (TX3 11).2.1 (TX3 11).2.2.1 : Cond), (Cond.lays RX3 (TX3 12).1 (TX3 12).2.1 (TX3 12).2.2.1 : Cond), (Cond.lays RX3 (TX3 13).1 (TX3 13).2.1 (TX3 13).2.2.1 : Cond), (Cond.lays RX3 (TX3 14).1 (TX3 14).2.1 (TX3 14).2.2.1 : Cond), (Cond.lays RX3 (TX3 15).1 (TX3 15).2.1 (TX3 15).2.2.1 : Cond), (Cond.lays RX3 (TX3 16).1 (TX3 16).2.1 (TX3 16).2.2.1 : Cond), (Cond.lays RX3 (TX3 17).1 (TX3 17).2.1 (TX3 17).2.2.1 : Cond), (Cond.lays RX3 (TX3 18).1 (TX3 18).2.1 (TX3 18).2.2.1 : Cond), (Cond.lays RX3 (TX3 19).1 (TX3 19).2.1 (TX3 19).2.2.1 : Cond)], w ∈ wAll
  exact List.forall_mem_cons.mpr ⟨wIn 189 (by decide +kernel) rfl, List.forall_mem_cons.mpr ⟨wIn 191 (by decide +kernel) rfl, List.forall_mem_cons.mpr ⟨wIn 193 (by decide +kernel) rfl, List.forall_mem_cons.mpr ⟨wIn 195 (by decide +kernel) rfl, List.forall_mem_cons.mpr ⟨wIn 197 (by decide +kernel) rfl, List.forall_mem_cons.mpr ⟨wIn 199 (by decide +kernel) rfl, List.forall_mem_cons.mpr ⟨wIn 201 (by decide +kernel) rfl, List.forall_mem_cons.mpr ⟨wIn 203 (by decide +kernel) rfl, List.forall_mem_cons.mpr ⟨wIn 205 (by decide +kernel) rfl, List.forall_mem_cons.mpr ⟨wIn 207 (by decide +kernel) rfl, List.forall_mem_cons.mpr ⟨wIn 209 (by decide +kernel) rfl, List.forall_mem_cons.mpr ⟨wIn 211 (by decide +kernel) rfl, List.forall_mem_cons.mpr ⟨wIn 213 (by decide +kernel) rfl, List.forall_mem_cons.mpr ⟨wIn 215 (by decide +kernel) rfl, List.forall_mem_cons.mpr ⟨wIn 217 (by decide +kernel) rfl, List.forall_mem_cons.mpr ⟨wIn 219 (by decide +kernel) rfl, List.forall_mem_cons.mpr ⟨wIn 221 (by decide +kernel) rfl, List.forall_mem_cons.mpr ⟨wIn 223 (by decide +kernel) rfl, List.forall_mem_cons.mpr ⟨wIn 225 (by decide +kernel) rfl, List.forall_mem_cons.mpr ⟨wIn 227 (by decide +kernel) rfl, fun _ h => absurd h List.not_mem_nil⟩⟩⟩⟩⟩⟩⟩⟩⟩⟩⟩⟩⟩⟩⟩⟩⟩⟩⟩⟩
theorem inW4 : ∀ w ∈ u_ws RX4 TX4 11, w ∈ wAll := by
  show ∀ w ∈ [(Cond.laysFinal RX4 (TX4 0).1 (TX4 0).2.1 (TX4 0).2.2.1 : Cond), (Cond.lays RX4 (TX4 1).1 (TX4 1).2.1 (TX4 1).2.2.1 : Cond), (Cond.lays RX4 (TX4 2).1 (TX4 2).2.1 (TX4 2).2.2.1 : Cond), (Cond.lays RX4 (TX4 3).1 (TX4 3).2.1 (TX4 3).2.2.1 : Cond), (Cond.lays RX4 (TX4 4).1 (TX4 4).2.1 (TX4 4).2.2.1 : Cond), (Cond.lays RX4 (TX4 5).1 (TX4 5).2.1 (TX4 5).2.2.1 : Cond), (Cond.lays RX4 (TX4 6).1 (TX4 6).2.1 (TX4 6).2.2.1 : Cond), (Cond.lays RX4 (TX4 7).1 (TX4 7).2.1 (TX4 7).2.2.1 : Cond), (Cond.lays RX4 (TX4 8).1 (TX4 8).2.1 (TX4 8).2.2.1 : Cond), (Cond.lays RX4 (TX4 9).1 (TX4 9).2.1 (TX4 9).2.2.1 : Cond), (Cond.lays RX4 (TX4 10).1 (TX4 10).2.1 (TX4 10).2.2.1 : Cond)], w ∈ wAll
  exact List.forall_mem_cons.mpr ⟨wIn 281 (by decide +kernel) rfl, List.forall_mem_cons.mpr ⟨wIn 283 (by decide +kernel) rfl, List.forall_mem_cons.mpr ⟨wIn 285 (by decide +kernel) rfl, List.forall_mem_cons.mpr ⟨wIn 287 (by decide +kernel) rfl, List.forall_mem_cons.mpr ⟨wIn 289 (by decide +kernel) rfl, List.forall_mem_cons.mpr ⟨wIn 291 (by decide +kernel) rfl, List.forall_mem_cons.mpr ⟨wIn 293 (by decide +kernel) rfl, List.forall_mem_cons.mpr ⟨wIn 295 (by decide +kernel) rfl, List.forall_mem_cons.mpr ⟨wIn 297 (by decide +kernel) rfl, List.forall_mem_cons.mpr ⟨wIn 299 (by decide +kernel) rfl, List.forall_mem_cons.mpr ⟨wIn 301 (by decide +kernel) rfl, fun _ h => absurd h List.not_mem_nil⟩⟩⟩⟩⟩⟩⟩⟩⟩⟩⟩
theorem inW5 : ∀ w ∈ u_ws RX5 TX5 3, w ∈ wAll := by
  show ∀ w ∈ [(Cond.laysFinal RX5 (TX5 0).1 (TX5 0).2.1 (TX5 0).2.2.1 : Cond), (Cond.lays RX5 (TX5 1).1 (TX5 1).2.1 (TX5 1).2.2.1 : Cond), (Cond.lays RX5 (TX5 2).1 (TX5 2).2.1 (TX5 2).2.2.1 : Cond)], w ∈ wAll
  exact List.forall_mem_cons.mpr ⟨wIn 77 (by decide +kernel) rfl, List.forall_mem_cons.mpr ⟨wIn 79 (by decide +kernel) rfl, List.forall_mem_cons.mpr ⟨wIn 81 (by decide +kernel) rfl, fun _ h => absurd h List.not_mem_nil⟩⟩⟩
theorem inW6 : ∀ w ∈ u_ws RX6 TX6 8, w ∈ wAll := by
  show ∀ w ∈ [(Cond.laysFinal RX6 (TX6 0).1 (TX6 0).2.1 (TX6 0).2.2.1 : Cond), (Cond.laysFinal RX6 (TX6 1).1 (TX6 1).2.1 (TX6 1).2.2.1 : Cond), (Cond.laysFinal RX6 (TX6 2).1 (TX6 2).2.1 (TX6 2).2.2.1 : Cond), (Cond.lays RX6 (TX6 3).1 (TX6 3).2.1 (TX6 3).2.2.1 : Cond), (Cond.lays RX6 (TX6 4).1 (TX6 4).2.1 (TX6 4).2.2.1 : Cond), (Cond.laysFinal RX6 (TX6 5).1 (TX6 5).2.1 (TX6 5).2.2.1 : Cond), (Cond.laysFinal RX6 (TX6 6).1 (TX6 6).2.1 (TX6 6).2.2.1 : Cond), (Cond.laysFinal RX6 (TX6 7).1 (TX6 7).2.1 (TX6 7).2.2.1 : Cond)], w ∈ wAll
  exact List.forall_mem_cons.mpr ⟨wIn 314 (by decide +kernel) rfl, List.forall_mem_cons.mpr ⟨wIn 316 (by decide +kernel) rfl, List.forall_mem_cons.mpr ⟨wIn 318 (by decide +kernel) rfl, List.forall_mem_cons.mpr ⟨wIn 320 (by decide +kernel) rfl, List.forall_mem_cons.mpr ⟨wIn 322 (by decide +kernel) rfl, List.forall_mem_cons.mpr ⟨wIn 324 (by decide +kernel) rfl, List.forall_mem_cons.mpr ⟨wIn 326 (by decide +kernel) rfl, List.forall_mem_cons.mpr ⟨wIn 328 (by decide +kernel) rfl, fun _ h => absurd h List.not_mem_nil⟩⟩⟩⟩⟩⟩⟩⟩
theorem f_RX6_12 : wF RX6 12 6 0 := ⟨RX6, TX6, 8, rfl, by decide, wIn 306 (by decide +kernel) rfl, inW6⟩
theorem p_RX6_12 : wFP RX6 12 6 0 true (.object "StandingPayments$House") := ⟨RX6, TX6, 8, tyX6, rfl, by decide, wIn 306 (by decide +kernel) rfl, inW6, rfl, rfl, tyX6_ok, nmX6, fun _ => rfl⟩
theorem f_RX6_16 : wF RX6 16 6 1 := ⟨RX6, TX6, 8, rfl, by decide, wIn 307 (by decide +kernel) rfl, inW6⟩
theorem p_RX6_16 : wFP RX6 16 6 1 true (.object "StandingPayments$House") := ⟨RX6, TX6, 8, tyX6, rfl, by decide, wIn 307 (by decide +kernel) rfl, inW6, rfl, rfl, tyX6_ok, nmX6, fun _ => rfl⟩
theorem f_RX6_19 : wF RX6 19 6 2 := ⟨RX6, TX6, 8, rfl, by decide, wIn 308 (by decide +kernel) rfl, inW6⟩
theorem p_RX6_19 : wFP RX6 19 6 2 true (.array (.object "StandingPayments$House")) := ⟨RX6, TX6, 8, tyX6, rfl, by decide, wIn 308 (by decide +kernel) rfl, inW6, rfl, rfl, tyX6_ok, nmX6, fun _ => rfl⟩
theorem f_RX6_23 : wF RX6 23 6 5 := ⟨RX6, TX6, 8, rfl, by decide, wIn 311 (by decide +kernel) rfl, inW6⟩
theorem p_RX6_23 : wFP RX6 23 6 5 true (.array (.object "StandingPayments$House")) := ⟨RX6, TX6, 8, tyX6, rfl, by decide, wIn 311 (by decide +kernel) rfl, inW6, rfl, rfl, tyX6_ok, nmX6, fun _ => rfl⟩
theorem f_RX6_26 : wF RX6 26 6 6 := ⟨RX6, TX6, 8, rfl, by decide, wIn 312 (by decide +kernel) rfl, inW6⟩
theorem p_RX6_26 : wFP RX6 26 6 6 true (.array .boolean) := ⟨RX6, TX6, 8, tyX6, rfl, by decide, wIn 312 (by decide +kernel) rfl, inW6, rfl, rfl, tyX6_ok, nmX6, fun _ => rfl⟩
theorem f_RX6_33 : wF RX6 33 6 7 := ⟨RX6, TX6, 8, rfl, by decide, wIn 313 (by decide +kernel) rfl, inW6⟩
theorem p_RX6_33 : wFP RX6 33 6 7 true (.object "StandingPayments$Pad") := ⟨RX6, TX6, 8, tyX6, rfl, by decide, wIn 313 (by decide +kernel) rfl, inW6, rfl, rfl, tyX6_ok, nmX6, fun _ => rfl⟩
theorem f_RX6_48 : wF RX6 48 2 0 := ⟨RX2, TX2, 12, rfl, by decide, wIn 231 (by decide +kernel) rfl, inW2⟩
theorem f_RX6_89 : wF RX6 89 2 6 := ⟨RX2, TX2, 12, rfl, by decide, wIn 241 (by decide +kernel) rfl, inW2⟩
theorem p_RX6_89 : wFP RX6 89 2 6 false (.int) := ⟨RX2, TX2, 12, tyX2, rfl, by decide, wIn 241 (by decide +kernel) rfl, inW2, rfl, rfl, tyX2_ok, nmX2, fun h => by cases h⟩
theorem f_RX6_106 : wF RX6 106 2 1 := ⟨RX2, TX2, 12, rfl, by decide, wIn 233 (by decide +kernel) rfl, inW2⟩
theorem f_RX6_116 : wF RX6 116 0 12 := ⟨RX0, TX0, 13, rfl, by decide, wIn 115 (by decide +kernel) rfl, inW0⟩
theorem p_RX6_116 : wFP RX6 116 0 12 false (.double) := ⟨RX0, TX0, 13, tyX0, rfl, by decide, wIn 115 (by decide +kernel) rfl, inW0, rfl, rfl, tyX0_ok, nmX0, fun h => by cases h⟩
theorem f_RX6_130 : wF RX6 130 2 2 := ⟨RX2, TX2, 12, rfl, by decide, wIn 235 (by decide +kernel) rfl, inW2⟩
theorem f_RX6_138 : wF RX6 138 2 3 := ⟨RX2, TX2, 12, rfl, by decide, wIn 237 (by decide +kernel) rfl, inW2⟩
theorem f_RX6_142 : wF RX6 142 5 2 := ⟨RX5, TX5, 3, rfl, by decide, wIn 76 (by decide +kernel) rfl, inW5⟩
theorem p_RX6_142 : wFP RX6 142 5 2 false (.int) := ⟨RX5, TX5, 3, tyX5, rfl, by decide, wIn 76 (by decide +kernel) rfl, inW5, rfl, rfl, tyX5_ok, nmX5, fun h => by cases h⟩
theorem f_RX6_147 : wF RX6 147 5 0 := ⟨RX5, TX5, 3, rfl, by decide, wIn 72 (by decide +kernel) rfl, inW5⟩
theorem f_RX6_151 : wF RX6 151 4 1 := ⟨RX4, TX4, 11, rfl, by decide, wIn 280 (by decide +kernel) rfl, inW4⟩
theorem p_RX6_151 : wFP RX6 151 4 1 false (.int) := ⟨RX4, TX4, 11, tyX4, rfl, by decide, wIn 280 (by decide +kernel) rfl, inW4, rfl, rfl, tyX4_ok, nmX4, fun h => by cases h⟩
theorem f_RX6_154 : wF RX6 154 6 4 := ⟨RX6, TX6, 8, rfl, by decide, wIn 310 (by decide +kernel) rfl, inW6⟩
theorem p_RX6_154 : wFP RX6 154 6 4 false (.int) := ⟨RX6, TX6, 8, tyX6, rfl, by decide, wIn 310 (by decide +kernel) rfl, inW6, rfl, rfl, tyX6_ok, nmX6, fun _ => rfl⟩
theorem f_RX6_171 : wF RX6 171 0 3 := ⟨RX0, TX0, 13, rfl, by decide, wIn 98 (by decide +kernel) rfl, inW0⟩
theorem p_RX6_171 : wFP RX6 171 0 3 false (.long) := ⟨RX0, TX0, 13, tyX0, rfl, by decide, wIn 98 (by decide +kernel) rfl, inW0, rfl, rfl, tyX0_ok, nmX0, fun h => by cases h⟩
theorem f_RX6_176 : wF RX6 176 3 12 := ⟨RX3, TX3, 20, rfl, by decide, wIn 170 (by decide +kernel) rfl, inW3⟩
theorem p_RX6_176 : wFP RX6 176 3 12 false (.int) := ⟨RX3, TX3, 20, tyX3, rfl, by decide, wIn 170 (by decide +kernel) rfl, inW3, rfl, rfl, tyX3_ok, nmX3, fun h => by cases h⟩
theorem f_RX6_179 : wF RX6 179 3 13 := ⟨RX3, TX3, 20, rfl, by decide, wIn 174 (by decide +kernel) rfl, inW3⟩
theorem p_RX6_179 : wFP RX6 179 3 13 false (.int) := ⟨RX3, TX3, 20, tyX3, rfl, by decide, wIn 174 (by decide +kernel) rfl, inW3, rfl, rfl, tyX3_ok, nmX3, fun h => by cases h⟩
theorem f_RX6_182 : wF RX6 182 3 14 := ⟨RX3, TX3, 20, rfl, by decide, wIn 177 (by decide +kernel) rfl, inW3⟩
theorem p_RX6_182 : wFP RX6 182 3 14 false (.int) := ⟨RX3, TX3, 20, tyX3, rfl, by decide, wIn 177 (by decide +kernel) rfl, inW3, rfl, rfl, tyX3_ok, nmX3, fun h => by cases h⟩
theorem f_RX6_185 : wF RX6 185 3 15 := ⟨RX3, TX3, 20, rfl, by decide, wIn 180 (by decide +kernel) rfl, inW3⟩
theorem p_RX6_185 : wFP RX6 185 3 15 false (.int) := ⟨RX3, TX3, 20, tyX3, rfl, by decide, wIn 180 (by decide +kernel) rfl, inW3, rfl, rfl, tyX3_ok, nmX3, fun h => by cases h⟩
theorem f_RX6_216 : wF RX6 216 6 3 := ⟨RX6, TX6, 8, rfl, by decide, wIn 309 (by decide +kernel) rfl, inW6⟩
theorem p_RX6_216 : wFP RX6 216 6 3 false (.int) := ⟨RX6, TX6, 8, tyX6, rfl, by decide, wIn 309 (by decide +kernel) rfl, inW6, rfl, rfl, tyX6_ok, nmX6, fun _ => rfl⟩
theorem f_RX0_9 : wF RX0 9 0 0 := ⟨RX0, TX0, 13, rfl, by decide, wIn 90 (by decide +kernel) rfl, inW0⟩
theorem p_RX0_9 : wFP RX0 9 0 0 false (.int) := ⟨RX0, TX0, 13, tyX0, rfl, by decide, wIn 90 (by decide +kernel) rfl, inW0, rfl, rfl, tyX0_ok, nmX0, fun _ => rfl⟩
theorem f_RX0_15 : wF RX0 15 0 1 := ⟨RX0, TX0, 13, rfl, by decide, wIn 92 (by decide +kernel) rfl, inW0⟩
theorem p_RX0_15 : wFP RX0 15 0 1 false (.int) := ⟨RX0, TX0, 13, tyX0, rfl, by decide, wIn 92 (by decide +kernel) rfl, inW0, rfl, rfl, tyX0_ok, nmX0, fun _ => rfl⟩
theorem f_RX0_18 : wF RX0 18 0 2 := ⟨RX0, TX0, 13, rfl, by decide, wIn 94 (by decide +kernel) rfl, inW0⟩
theorem p_RX0_18 : wFP RX0 18 0 2 false (.int) := ⟨RX0, TX0, 13, tyX0, rfl, by decide, wIn 94 (by decide +kernel) rfl, inW0, rfl, rfl, tyX0_ok, nmX0, fun _ => rfl⟩
theorem f_RX0_21 : wF RX0 21 0 3 := ⟨RX0, TX0, 13, rfl, by decide, wIn 96 (by decide +kernel) rfl, inW0⟩
theorem p_RX0_21 : wFP RX0 21 0 3 false (.long) := ⟨RX0, TX0, 13, tyX0, rfl, by decide, wIn 96 (by decide +kernel) rfl, inW0, rfl, rfl, tyX0_ok, nmX0, fun _ => rfl⟩
theorem f_RX0_25 : wF RX0 25 0 4 := ⟨RX0, TX0, 13, rfl, by decide, wIn 99 (by decide +kernel) rfl, inW0⟩
theorem p_RX0_25 : wFP RX0 25 0 4 false (.long) := ⟨RX0, TX0, 13, tyX0, rfl, by decide, wIn 99 (by decide +kernel) rfl, inW0, rfl, rfl, tyX0_ok, nmX0, fun _ => rfl⟩
theorem f_RX0_28 : wF RX0 28 0 5 := ⟨RX0, TX0, 13, rfl, by decide, wIn 101 (by decide +kernel) rfl, inW0⟩
theorem p_RX0_28 : wFP RX0 28 0 5 false (.long) := ⟨RX0, TX0, 13, tyX0, rfl, by decide, wIn 101 (by decide +kernel) rfl, inW0, rfl, rfl, tyX0_ok, nmX0, fun _ => rfl⟩
theorem f_RX0_31 : wF RX0 31 0 6 := ⟨RX0, TX0, 13, rfl, by decide, wIn 103 (by decide +kernel) rfl, inW0⟩
theorem p_RX0_31 : wFP RX0 31 0 6 false (.long) := ⟨RX0, TX0, 13, tyX0, rfl, by decide, wIn 103 (by decide +kernel) rfl, inW0, rfl, rfl, tyX0_ok, nmX0, fun _ => rfl⟩
theorem f_RX0_34 : wF RX0 34 0 7 := ⟨RX0, TX0, 13, rfl, by decide, wIn 105 (by decide +kernel) rfl, inW0⟩
theorem p_RX0_34 : wFP RX0 34 0 7 false (.long) := ⟨RX0, TX0, 13, tyX0, rfl, by decide, wIn 105 (by decide +kernel) rfl, inW0, rfl, rfl, tyX0_ok, nmX0, fun _ => rfl⟩
theorem f_RX0_37 : wF RX0 37 0 8 := ⟨RX0, TX0, 13, rfl, by decide, wIn 107 (by decide +kernel) rfl, inW0⟩
theorem p_RX0_37 : wFP RX0 37 0 8 false (.long) := ⟨RX0, TX0, 13, tyX0, rfl, by decide, wIn 107 (by decide +kernel) rfl, inW0, rfl, rfl, tyX0_ok, nmX0, fun _ => rfl⟩
theorem f_RX0_40 : wF RX0 40 0 9 := ⟨RX0, TX0, 13, rfl, by decide, wIn 109 (by decide +kernel) rfl, inW0⟩
theorem p_RX0_40 : wFP RX0 40 0 9 false (.long) := ⟨RX0, TX0, 13, tyX0, rfl, by decide, wIn 109 (by decide +kernel) rfl, inW0, rfl, rfl, tyX0_ok, nmX0, fun _ => rfl⟩
theorem f_RX0_43 : wF RX0 43 0 10 := ⟨RX0, TX0, 13, rfl, by decide, wIn 111 (by decide +kernel) rfl, inW0⟩
theorem p_RX0_43 : wFP RX0 43 0 10 false (.long) := ⟨RX0, TX0, 13, tyX0, rfl, by decide, wIn 111 (by decide +kernel) rfl, inW0, rfl, rfl, tyX0_ok, nmX0, fun _ => rfl⟩
theorem f_RX0_46 : wF RX0 46 0 11 := ⟨RX0, TX0, 13, rfl, by decide, wIn 112 (by decide +kernel) rfl, inW0⟩
theorem p_RX0_46 : wFP RX0 46 0 11 false (.long) := ⟨RX0, TX0, 13, tyX0, rfl, by decide, wIn 112 (by decide +kernel) rfl, inW0, rfl, rfl, tyX0_ok, nmX0, fun _ => rfl⟩
theorem f_RX0_49 : wF RX0 49 0 12 := ⟨RX0, TX0, 13, rfl, by decide, wIn 114 (by decide +kernel) rfl, inW0⟩
theorem p_RX0_49 : wFP RX0 49 0 12 false (.double) := ⟨RX0, TX0, 13, tyX0, rfl, by decide, wIn 114 (by decide +kernel) rfl, inW0, rfl, rfl, tyX0_ok, nmX0, fun _ => rfl⟩
theorem f_RX1_9 : wF RX1 9 1 0 := ⟨RX1, TX1, 3, rfl, by decide, wIn 45 (by decide +kernel) rfl, inW1⟩
theorem p_RX1_9 : wFP RX1 9 1 0 true (.array .long) := ⟨RX1, TX1, 3, tyX1, rfl, by decide, wIn 45 (by decide +kernel) rfl, inW1, rfl, rfl, tyX1_ok, nmX1, fun _ => rfl⟩
theorem f_RX1_21 : wF RX1 21 1 1 := ⟨RX1, TX1, 3, rfl, by decide, wIn 46 (by decide +kernel) rfl, inW1⟩
theorem p_RX1_21 : wFP RX1 21 1 1 false (.int) := ⟨RX1, TX1, 3, tyX1, rfl, by decide, wIn 46 (by decide +kernel) rfl, inW1, rfl, rfl, tyX1_ok, nmX1, fun _ => rfl⟩
theorem f_RX1_25 : wF RX1 25 1 2 := ⟨RX1, TX1, 3, rfl, by decide, wIn 48 (by decide +kernel) rfl, inW1⟩
theorem p_RX1_25 : wFP RX1 25 1 2 false (.int) := ⟨RX1, TX1, 3, tyX1, rfl, by decide, wIn 48 (by decide +kernel) rfl, inW1, rfl, rfl, tyX1_ok, nmX1, fun _ => rfl⟩
theorem f_RX2_12 : wF RX2 12 2 0 := ⟨RX2, TX2, 12, rfl, by decide, wIn 230 (by decide +kernel) rfl, inW2⟩
theorem p_RX2_12 : wFP RX2 12 2 0 true (.object "StandingPayments$Calendar") := ⟨RX2, TX2, 12, tyX2, rfl, by decide, wIn 230 (by decide +kernel) rfl, inW2, rfl, rfl, tyX2_ok, nmX2, fun _ => rfl⟩
theorem f_RX2_20 : wF RX2 20 2 1 := ⟨RX2, TX2, 12, rfl, by decide, wIn 232 (by decide +kernel) rfl, inW2⟩
theorem p_RX2_20 : wFP RX2 20 2 1 true (.array (.object "StandingPayments$Account")) := ⟨RX2, TX2, 12, tyX2, rfl, by decide, wIn 232 (by decide +kernel) rfl, inW2, rfl, rfl, tyX2_ok, nmX2, fun _ => rfl⟩
theorem f_RX2_26 : wF RX2 26 2 2 := ⟨RX2, TX2, 12, rfl, by decide, wIn 234 (by decide +kernel) rfl, inW2⟩
theorem p_RX2_26 : wFP RX2 26 2 2 true (.array (.object "StandingPayments$Order")) := ⟨RX2, TX2, 12, tyX2, rfl, by decide, wIn 234 (by decide +kernel) rfl, inW2, rfl, rfl, tyX2_ok, nmX2, fun _ => rfl⟩
theorem f_RX2_33 : wF RX2 33 2 3 := ⟨RX2, TX2, 12, rfl, by decide, wIn 236 (by decide +kernel) rfl, inW2⟩
theorem p_RX2_33 : wFP RX2 33 2 3 true (.object "StandingPayments$Waiting") := ⟨RX2, TX2, 12, tyX2, rfl, by decide, wIn 236 (by decide +kernel) rfl, inW2, rfl, rfl, tyX2_ok, nmX2, fun _ => rfl⟩
theorem f_RX2_37 : wF RX2 37 2 7 := ⟨RX2, TX2, 12, rfl, by decide, wIn 242 (by decide +kernel) rfl, inW2⟩
theorem p_RX2_37 : wFP RX2 37 2 7 false (.int) := ⟨RX2, TX2, 12, tyX2, rfl, by decide, wIn 242 (by decide +kernel) rfl, inW2, rfl, rfl, tyX2_ok, nmX2, fun _ => rfl⟩
theorem f_RX2_41 : wF RX2 41 2 8 := ⟨RX2, TX2, 12, rfl, by decide, wIn 243 (by decide +kernel) rfl, inW2⟩
theorem p_RX2_41 : wFP RX2 41 2 8 false (.int) := ⟨RX2, TX2, 12, tyX2, rfl, by decide, wIn 243 (by decide +kernel) rfl, inW2, rfl, rfl, tyX2_ok, nmX2, fun _ => rfl⟩
theorem f_RX2_44 : wF RX2 44 2 9 := ⟨RX2, TX2, 12, rfl, by decide, wIn 244 (by decide +kernel) rfl, inW2⟩
theorem p_RX2_44 : wFP RX2 44 2 9 false (.int) := ⟨RX2, TX2, 12, tyX2, rfl, by decide, wIn 244 (by decide +kernel) rfl, inW2, rfl, rfl, tyX2_ok, nmX2, fun _ => rfl⟩
theorem f_RX2_53 : wF RX2 53 2 4 := ⟨RX2, TX2, 12, rfl, by decide, wIn 238 (by decide +kernel) rfl, inW2⟩
theorem p_RX2_53 : wFP RX2 53 2 4 false (.int) := ⟨RX2, TX2, 12, tyX2, rfl, by decide, wIn 238 (by decide +kernel) rfl, inW2, rfl, rfl, tyX2_ok, nmX2, fun _ => rfl⟩
theorem f_RX2_59 : wF RX2 59 2 5 := ⟨RX2, TX2, 12, rfl, by decide, wIn 239 (by decide +kernel) rfl, inW2⟩
theorem p_RX2_59 : wFP RX2 59 2 5 false (.int) := ⟨RX2, TX2, 12, tyX2, rfl, by decide, wIn 239 (by decide +kernel) rfl, inW2, rfl, rfl, tyX2_ok, nmX2, fun _ => rfl⟩
theorem f_RX2_68 : wF RX2 68 2 6 := ⟨RX2, TX2, 12, rfl, by decide, wIn 240 (by decide +kernel) rfl, inW2⟩
theorem p_RX2_68 : wFP RX2 68 2 6 false (.int) := ⟨RX2, TX2, 12, tyX2, rfl, by decide, wIn 240 (by decide +kernel) rfl, inW2, rfl, rfl, tyX2_ok, nmX2, fun _ => rfl⟩
theorem f_RX2_71 : wF RX2 71 2 10 := ⟨RX2, TX2, 12, rfl, by decide, wIn 245 (by decide +kernel) rfl, inW2⟩
theorem p_RX2_71 : wFP RX2 71 2 10 false (.int) := ⟨RX2, TX2, 12, tyX2, rfl, by decide, wIn 245 (by decide +kernel) rfl, inW2, rfl, rfl, tyX2_ok, nmX2, fun _ => rfl⟩
theorem f_RX2_74 : wF RX2 74 1 2 := ⟨RX1, TX1, 3, rfl, by decide, wIn 49 (by decide +kernel) rfl, inW1⟩
theorem p_RX2_74 : wFP RX2 74 1 2 false (.int) := ⟨RX1, TX1, 3, tyX1, rfl, by decide, wIn 49 (by decide +kernel) rfl, inW1, rfl, rfl, tyX1_ok, nmX1, fun h => by cases h⟩
theorem f_RX2_101 : wF RX2 101 0 2 := ⟨RX0, TX0, 13, rfl, by decide, wIn 95 (by decide +kernel) rfl, inW0⟩
theorem p_RX2_101 : wFP RX2 101 0 2 false (.int) := ⟨RX0, TX0, 13, tyX0, rfl, by decide, wIn 95 (by decide +kernel) rfl, inW0, rfl, rfl, tyX0_ok, nmX0, fun h => by cases h⟩
theorem f_RX2_105 : wF RX2 105 0 3 := ⟨RX0, TX0, 13, rfl, by decide, wIn 97 (by decide +kernel) rfl, inW0⟩
theorem p_RX2_105 : wFP RX2 105 0 3 false (.long) := ⟨RX0, TX0, 13, tyX0, rfl, by decide, wIn 97 (by decide +kernel) rfl, inW0, rfl, rfl, tyX0_ok, nmX0, fun h => by cases h⟩
theorem f_RX2_109 : wF RX2 109 0 4 := ⟨RX0, TX0, 13, rfl, by decide, wIn 100 (by decide +kernel) rfl, inW0⟩
theorem p_RX2_109 : wFP RX2 109 0 4 false (.long) := ⟨RX0, TX0, 13, tyX0, rfl, by decide, wIn 100 (by decide +kernel) rfl, inW0, rfl, rfl, tyX0_ok, nmX0, fun h => by cases h⟩
theorem f_RX2_127 : wF RX2 127 3 11 := ⟨RX3, TX3, 20, rfl, by decide, wIn 168 (by decide +kernel) rfl, inW3⟩
theorem p_RX2_127 : wFP RX2 127 3 11 false (.int) := ⟨RX3, TX3, 20, tyX3, rfl, by decide, wIn 168 (by decide +kernel) rfl, inW3, rfl, rfl, tyX3_ok, nmX3, fun h => by cases h⟩
theorem f_RX2_130 : wF RX2 130 3 2 := ⟨RX3, TX3, 20, rfl, by decide, wIn 154 (by decide +kernel) rfl, inW3⟩
theorem p_RX2_130 : wFP RX2 130 3 2 false (.int) := ⟨RX3, TX3, 20, tyX3, rfl, by decide, wIn 154 (by decide +kernel) rfl, inW3, rfl, rfl, tyX3_ok, nmX3, fun h => by cases h⟩
theorem f_RX2_133 : wF RX2 133 3 8 := ⟨RX3, TX3, 20, rfl, by decide, wIn 162 (by decide +kernel) rfl, inW3⟩
theorem p_RX2_133 : wFP RX2 133 3 8 false (.int) := ⟨RX3, TX3, 20, tyX3, rfl, by decide, wIn 162 (by decide +kernel) rfl, inW3, rfl, rfl, tyX3_ok, nmX3, fun h => by cases h⟩
theorem f_RX2_136 : wF RX2 136 3 15 := ⟨RX3, TX3, 20, rfl, by decide, wIn 179 (by decide +kernel) rfl, inW3⟩
theorem p_RX2_136 : wFP RX2 136 3 15 false (.int) := ⟨RX3, TX3, 20, tyX3, rfl, by decide, wIn 179 (by decide +kernel) rfl, inW3, rfl, rfl, tyX3_ok, nmX3, fun h => by cases h⟩
theorem f_RX2_138 : wF RX2 138 5 2 := ⟨RX5, TX5, 3, rfl, by decide, wIn 75 (by decide +kernel) rfl, inW5⟩
theorem p_RX2_138 : wFP RX2 138 5 2 false (.int) := ⟨RX5, TX5, 3, tyX5, rfl, by decide, wIn 75 (by decide +kernel) rfl, inW5, rfl, rfl, tyX5_ok, nmX5, fun h => by cases h⟩
theorem f_RX2_141 : wF RX2 141 5 0 := ⟨RX5, TX5, 3, rfl, by decide, wIn 71 (by decide +kernel) rfl, inW5⟩
theorem f_RX2_145 : wF RX2 145 3 13 := ⟨RX3, TX3, 20, rfl, by decide, wIn 173 (by decide +kernel) rfl, inW3⟩
theorem p_RX2_145 : wFP RX2 145 3 13 false (.int) := ⟨RX3, TX3, 20, tyX3, rfl, by decide, wIn 173 (by decide +kernel) rfl, inW3, rfl, rfl, tyX3_ok, nmX3, fun h => by cases h⟩
theorem f_RX2_158 : wF RX2 158 3 18 := ⟨RX3, TX3, 20, rfl, by decide, wIn 186 (by decide +kernel) rfl, inW3⟩
theorem p_RX2_158 : wFP RX2 158 3 18 false (.int) := ⟨RX3, TX3, 20, tyX3, rfl, by decide, wIn 186 (by decide +kernel) rfl, inW3, rfl, rfl, tyX3_ok, nmX3, fun h => by cases h⟩
theorem f_RX2_161 : wF RX2 161 1 1 := ⟨RX1, TX1, 3, rfl, by decide, wIn 47 (by decide +kernel) rfl, inW1⟩
theorem p_RX2_161 : wFP RX2 161 1 1 false (.int) := ⟨RX1, TX1, 3, tyX1, rfl, by decide, wIn 47 (by decide +kernel) rfl, inW1, rfl, rfl, tyX1_ok, nmX1, fun h => by cases h⟩
theorem f_RX2_170 : wF RX2 170 2 11 := ⟨RX2, TX2, 12, rfl, by decide, wIn 246 (by decide +kernel) rfl, inW2⟩
theorem p_RX2_170 : wFP RX2 170 2 11 false (.int) := ⟨RX2, TX2, 12, tyX2, rfl, by decide, wIn 246 (by decide +kernel) rfl, inW2, rfl, rfl, tyX2_ok, nmX2, fun _ => rfl⟩
theorem f_RX2_192 : wF RX2 192 3 19 := ⟨RX3, TX3, 20, rfl, by decide, wIn 188 (by decide +kernel) rfl, inW3⟩
theorem p_RX2_192 : wFP RX2 192 3 19 false (.int) := ⟨RX3, TX3, 20, tyX3, rfl, by decide, wIn 188 (by decide +kernel) rfl, inW3, rfl, rfl, tyX3_ok, nmX3, fun h => by cases h⟩
theorem f_RX2_198 : wF RX2 198 3 17 := ⟨RX3, TX3, 20, rfl, by decide, wIn 184 (by decide +kernel) rfl, inW3⟩
theorem p_RX2_198 : wFP RX2 198 3 17 false (.int) := ⟨RX3, TX3, 20, tyX3, rfl, by decide, wIn 184 (by decide +kernel) rfl, inW3, rfl, rfl, tyX3_ok, nmX3, fun h => by cases h⟩
theorem f_RX2_201 : wF RX2 201 3 16 := ⟨RX3, TX3, 20, rfl, by decide, wIn 182 (by decide +kernel) rfl, inW3⟩
theorem p_RX2_201 : wFP RX2 201 3 16 false (.int) := ⟨RX3, TX3, 20, tyX3, rfl, by decide, wIn 182 (by decide +kernel) rfl, inW3, rfl, rfl, tyX3_ok, nmX3, fun h => by cases h⟩
theorem f_RX2_204 : wF RX2 204 3 9 := ⟨RX3, TX3, 20, rfl, by decide, wIn 164 (by decide +kernel) rfl, inW3⟩
theorem p_RX2_204 : wFP RX2 204 3 9 false (.boolean) := ⟨RX3, TX3, 20, tyX3, rfl, by decide, wIn 164 (by decide +kernel) rfl, inW3, rfl, rfl, tyX3_ok, nmX3, fun h => by cases h⟩
theorem f_RX2_208 : wF RX2 208 3 10 := ⟨RX3, TX3, 20, rfl, by decide, wIn 166 (by decide +kernel) rfl, inW3⟩
theorem p_RX2_208 : wFP RX2 208 3 10 false (.int) := ⟨RX3, TX3, 20, tyX3, rfl, by decide, wIn 166 (by decide +kernel) rfl, inW3, rfl, rfl, tyX3_ok, nmX3, fun h => by cases h⟩
theorem f_RX2_211 : wF RX2 211 3 7 := ⟨RX3, TX3, 20, rfl, by decide, wIn 160 (by decide +kernel) rfl, inW3⟩
theorem p_RX2_211 : wFP RX2 211 3 7 false (.int) := ⟨RX3, TX3, 20, tyX3, rfl, by decide, wIn 160 (by decide +kernel) rfl, inW3, rfl, rfl, tyX3_ok, nmX3, fun h => by cases h⟩
theorem f_RX2_214 : wF RX2 214 3 14 := ⟨RX3, TX3, 20, rfl, by decide, wIn 176 (by decide +kernel) rfl, inW3⟩
theorem p_RX2_214 : wFP RX2 214 3 14 false (.int) := ⟨RX3, TX3, 20, tyX3, rfl, by decide, wIn 176 (by decide +kernel) rfl, inW3, rfl, rfl, tyX3_ok, nmX3, fun h => by cases h⟩
theorem f_RX2_221 : wF RX2 221 3 0 := ⟨RX3, TX3, 20, rfl, by decide, wIn 150 (by decide +kernel) rfl, inW3⟩
theorem p_RX2_221 : wFP RX2 221 3 0 false (.int) := ⟨RX3, TX3, 20, tyX3, rfl, by decide, wIn 150 (by decide +kernel) rfl, inW3, rfl, rfl, tyX3_ok, nmX3, fun h => by cases h⟩
theorem f_RX2_224 : wF RX2 224 0 11 := ⟨RX0, TX0, 13, rfl, by decide, wIn 113 (by decide +kernel) rfl, inW0⟩
theorem p_RX2_224 : wFP RX2 224 0 11 false (.long) := ⟨RX0, TX0, 13, tyX0, rfl, by decide, wIn 113 (by decide +kernel) rfl, inW0, rfl, rfl, tyX0_ok, nmX0, fun h => by cases h⟩
theorem f_RX2_227 : wF RX2 227 0 0 := ⟨RX0, TX0, 13, rfl, by decide, wIn 91 (by decide +kernel) rfl, inW0⟩
theorem p_RX2_227 : wFP RX2 227 0 0 false (.int) := ⟨RX0, TX0, 13, tyX0, rfl, by decide, wIn 91 (by decide +kernel) rfl, inW0, rfl, rfl, tyX0_ok, nmX0, fun h => by cases h⟩
theorem f_RX2_230 : wF RX2 230 0 1 := ⟨RX0, TX0, 13, rfl, by decide, wIn 93 (by decide +kernel) rfl, inW0⟩
theorem p_RX2_230 : wFP RX2 230 0 1 false (.int) := ⟨RX0, TX0, 13, tyX0, rfl, by decide, wIn 93 (by decide +kernel) rfl, inW0, rfl, rfl, tyX0_ok, nmX0, fun h => by cases h⟩
theorem f_RX2_239 : wF RX2 239 0 8 := ⟨RX0, TX0, 13, rfl, by decide, wIn 108 (by decide +kernel) rfl, inW0⟩
theorem p_RX2_239 : wFP RX2 239 0 8 false (.long) := ⟨RX0, TX0, 13, tyX0, rfl, by decide, wIn 108 (by decide +kernel) rfl, inW0, rfl, rfl, tyX0_ok, nmX0, fun h => by cases h⟩
theorem f_RX2_242 : wF RX2 242 0 7 := ⟨RX0, TX0, 13, rfl, by decide, wIn 106 (by decide +kernel) rfl, inW0⟩
theorem p_RX2_242 : wFP RX2 242 0 7 false (.long) := ⟨RX0, TX0, 13, tyX0, rfl, by decide, wIn 106 (by decide +kernel) rfl, inW0, rfl, rfl, tyX0_ok, nmX0, fun h => by cases h⟩
theorem f_RX2_254 : wF RX2 254 0 5 := ⟨RX0, TX0, 13, rfl, by decide, wIn 102 (by decide +kernel) rfl, inW0⟩
theorem p_RX2_254 : wFP RX2 254 0 5 false (.long) := ⟨RX0, TX0, 13, tyX0, rfl, by decide, wIn 102 (by decide +kernel) rfl, inW0, rfl, rfl, tyX0_ok, nmX0, fun h => by cases h⟩
theorem f_RX2_257 : wF RX2 257 3 1 := ⟨RX3, TX3, 20, rfl, by decide, wIn 152 (by decide +kernel) rfl, inW3⟩
theorem p_RX2_257 : wFP RX2 257 3 1 false (.int) := ⟨RX3, TX3, 20, tyX3, rfl, by decide, wIn 152 (by decide +kernel) rfl, inW3, rfl, rfl, tyX3_ok, nmX3, fun h => by cases h⟩
theorem f_RX2_260 : wF RX2 260 0 6 := ⟨RX0, TX0, 13, rfl, by decide, wIn 104 (by decide +kernel) rfl, inW0⟩
theorem p_RX2_260 : wFP RX2 260 0 6 false (.long) := ⟨RX0, TX0, 13, tyX0, rfl, by decide, wIn 104 (by decide +kernel) rfl, inW0, rfl, rfl, tyX0_ok, nmX0, fun h => by cases h⟩
theorem f_RX2_263 : wF RX2 263 3 12 := ⟨RX3, TX3, 20, rfl, by decide, wIn 171 (by decide +kernel) rfl, inW3⟩
theorem p_RX2_263 : wFP RX2 263 3 12 false (.int) := ⟨RX3, TX3, 20, tyX3, rfl, by decide, wIn 171 (by decide +kernel) rfl, inW3, rfl, rfl, tyX3_ok, nmX3, fun h => by cases h⟩
theorem f_RX2_266 : wF RX2 266 0 9 := ⟨RX0, TX0, 13, rfl, by decide, wIn 110 (by decide +kernel) rfl, inW0⟩
theorem p_RX2_266 : wFP RX2 266 0 9 false (.long) := ⟨RX0, TX0, 13, tyX0, rfl, by decide, wIn 110 (by decide +kernel) rfl, inW0, rfl, rfl, tyX0_ok, nmX0, fun h => by cases h⟩
theorem f_RX2_276 : wF RX2 276 0 12 := ⟨RX0, TX0, 13, rfl, by decide, wIn 116 (by decide +kernel) rfl, inW0⟩
theorem p_RX2_276 : wFP RX2 276 0 12 false (.double) := ⟨RX0, TX0, 13, tyX0, rfl, by decide, wIn 116 (by decide +kernel) rfl, inW0, rfl, rfl, tyX0_ok, nmX0, fun h => by cases h⟩
theorem f_RX3_9 : wF RX3 9 3 0 := ⟨RX3, TX3, 20, rfl, by decide, wIn 149 (by decide +kernel) rfl, inW3⟩
theorem p_RX3_9 : wFP RX3 9 3 0 false (.int) := ⟨RX3, TX3, 20, tyX3, rfl, by decide, wIn 149 (by decide +kernel) rfl, inW3, rfl, rfl, tyX3_ok, nmX3, fun _ => rfl⟩
theorem f_RX3_15 : wF RX3 15 3 1 := ⟨RX3, TX3, 20, rfl, by decide, wIn 151 (by decide +kernel) rfl, inW3⟩
theorem p_RX3_15 : wFP RX3 15 3 1 false (.int) := ⟨RX3, TX3, 20, tyX3, rfl, by decide, wIn 151 (by decide +kernel) rfl, inW3, rfl, rfl, tyX3_ok, nmX3, fun _ => rfl⟩
theorem f_RX3_18 : wF RX3 18 3 2 := ⟨RX3, TX3, 20, rfl, by decide, wIn 153 (by decide +kernel) rfl, inW3⟩
theorem p_RX3_18 : wFP RX3 18 3 2 false (.int) := ⟨RX3, TX3, 20, tyX3, rfl, by decide, wIn 153 (by decide +kernel) rfl, inW3, rfl, rfl, tyX3_ok, nmX3, fun _ => rfl⟩
theorem f_RX3_21 : wF RX3 21 3 3 := ⟨RX3, TX3, 20, rfl, by decide, wIn 155 (by decide +kernel) rfl, inW3⟩
theorem p_RX3_21 : wFP RX3 21 3 3 false (.int) := ⟨RX3, TX3, 20, tyX3, rfl, by decide, wIn 155 (by decide +kernel) rfl, inW3, rfl, rfl, tyX3_ok, nmX3, fun _ => rfl⟩
theorem f_RX3_24 : wF RX3 24 3 4 := ⟨RX3, TX3, 20, rfl, by decide, wIn 156 (by decide +kernel) rfl, inW3⟩
theorem p_RX3_24 : wFP RX3 24 3 4 false (.int) := ⟨RX3, TX3, 20, tyX3, rfl, by decide, wIn 156 (by decide +kernel) rfl, inW3, rfl, rfl, tyX3_ok, nmX3, fun _ => rfl⟩
theorem f_RX3_27 : wF RX3 27 3 5 := ⟨RX3, TX3, 20, rfl, by decide, wIn 157 (by decide +kernel) rfl, inW3⟩
theorem p_RX3_27 : wFP RX3 27 3 5 false (.int) := ⟨RX3, TX3, 20, tyX3, rfl, by decide, wIn 157 (by decide +kernel) rfl, inW3, rfl, rfl, tyX3_ok, nmX3, fun _ => rfl⟩
theorem f_RX3_30 : wF RX3 30 3 6 := ⟨RX3, TX3, 20, rfl, by decide, wIn 158 (by decide +kernel) rfl, inW3⟩
theorem p_RX3_30 : wFP RX3 30 3 6 false (.int) := ⟨RX3, TX3, 20, tyX3, rfl, by decide, wIn 158 (by decide +kernel) rfl, inW3, rfl, rfl, tyX3_ok, nmX3, fun _ => rfl⟩
theorem f_RX3_33 : wF RX3 33 3 7 := ⟨RX3, TX3, 20, rfl, by decide, wIn 159 (by decide +kernel) rfl, inW3⟩
theorem p_RX3_33 : wFP RX3 33 3 7 false (.int) := ⟨RX3, TX3, 20, tyX3, rfl, by decide, wIn 159 (by decide +kernel) rfl, inW3, rfl, rfl, tyX3_ok, nmX3, fun _ => rfl⟩
theorem f_RX3_36 : wF RX3 36 3 8 := ⟨RX3, TX3, 20, rfl, by decide, wIn 161 (by decide +kernel) rfl, inW3⟩
theorem p_RX3_36 : wFP RX3 36 3 8 false (.int) := ⟨RX3, TX3, 20, tyX3, rfl, by decide, wIn 161 (by decide +kernel) rfl, inW3, rfl, rfl, tyX3_ok, nmX3, fun _ => rfl⟩
theorem f_RX3_39 : wF RX3 39 3 9 := ⟨RX3, TX3, 20, rfl, by decide, wIn 163 (by decide +kernel) rfl, inW3⟩
theorem p_RX3_39 : wFP RX3 39 3 9 false (.boolean) := ⟨RX3, TX3, 20, tyX3, rfl, by decide, wIn 163 (by decide +kernel) rfl, inW3, rfl, rfl, tyX3_ok, nmX3, fun _ => rfl⟩
theorem f_RX3_43 : wF RX3 43 3 10 := ⟨RX3, TX3, 20, rfl, by decide, wIn 165 (by decide +kernel) rfl, inW3⟩
theorem p_RX3_43 : wFP RX3 43 3 10 false (.int) := ⟨RX3, TX3, 20, tyX3, rfl, by decide, wIn 165 (by decide +kernel) rfl, inW3, rfl, rfl, tyX3_ok, nmX3, fun _ => rfl⟩
theorem f_RX3_46 : wF RX3 46 3 11 := ⟨RX3, TX3, 20, rfl, by decide, wIn 167 (by decide +kernel) rfl, inW3⟩
theorem p_RX3_46 : wFP RX3 46 3 11 false (.int) := ⟨RX3, TX3, 20, tyX3, rfl, by decide, wIn 167 (by decide +kernel) rfl, inW3, rfl, rfl, tyX3_ok, nmX3, fun _ => rfl⟩
theorem f_RX3_49 : wF RX3 49 3 12 := ⟨RX3, TX3, 20, rfl, by decide, wIn 169 (by decide +kernel) rfl, inW3⟩
theorem p_RX3_49 : wFP RX3 49 3 12 false (.int) := ⟨RX3, TX3, 20, tyX3, rfl, by decide, wIn 169 (by decide +kernel) rfl, inW3, rfl, rfl, tyX3_ok, nmX3, fun _ => rfl⟩
theorem f_RX3_52 : wF RX3 52 3 13 := ⟨RX3, TX3, 20, rfl, by decide, wIn 172 (by decide +kernel) rfl, inW3⟩
theorem p_RX3_52 : wFP RX3 52 3 13 false (.int) := ⟨RX3, TX3, 20, tyX3, rfl, by decide, wIn 172 (by decide +kernel) rfl, inW3, rfl, rfl, tyX3_ok, nmX3, fun _ => rfl⟩
theorem f_RX3_55 : wF RX3 55 3 14 := ⟨RX3, TX3, 20, rfl, by decide, wIn 175 (by decide +kernel) rfl, inW3⟩
theorem p_RX3_55 : wFP RX3 55 3 14 false (.int) := ⟨RX3, TX3, 20, tyX3, rfl, by decide, wIn 175 (by decide +kernel) rfl, inW3, rfl, rfl, tyX3_ok, nmX3, fun _ => rfl⟩
theorem f_RX3_58 : wF RX3 58 3 15 := ⟨RX3, TX3, 20, rfl, by decide, wIn 178 (by decide +kernel) rfl, inW3⟩
theorem p_RX3_58 : wFP RX3 58 3 15 false (.int) := ⟨RX3, TX3, 20, tyX3, rfl, by decide, wIn 178 (by decide +kernel) rfl, inW3, rfl, rfl, tyX3_ok, nmX3, fun _ => rfl⟩
theorem f_RX3_61 : wF RX3 61 3 16 := ⟨RX3, TX3, 20, rfl, by decide, wIn 181 (by decide +kernel) rfl, inW3⟩
theorem p_RX3_61 : wFP RX3 61 3 16 false (.int) := ⟨RX3, TX3, 20, tyX3, rfl, by decide, wIn 181 (by decide +kernel) rfl, inW3, rfl, rfl, tyX3_ok, nmX3, fun _ => rfl⟩
theorem f_RX3_85 : wF RX3 85 3 17 := ⟨RX3, TX3, 20, rfl, by decide, wIn 183 (by decide +kernel) rfl, inW3⟩
theorem p_RX3_85 : wFP RX3 85 3 17 false (.int) := ⟨RX3, TX3, 20, tyX3, rfl, by decide, wIn 183 (by decide +kernel) rfl, inW3, rfl, rfl, tyX3_ok, nmX3, fun _ => rfl⟩
theorem f_RX3_92 : wF RX3 92 3 18 := ⟨RX3, TX3, 20, rfl, by decide, wIn 185 (by decide +kernel) rfl, inW3⟩
theorem p_RX3_92 : wFP RX3 92 3 18 false (.int) := ⟨RX3, TX3, 20, tyX3, rfl, by decide, wIn 185 (by decide +kernel) rfl, inW3, rfl, rfl, tyX3_ok, nmX3, fun _ => rfl⟩
theorem f_RX3_98 : wF RX3 98 3 19 := ⟨RX3, TX3, 20, rfl, by decide, wIn 187 (by decide +kernel) rfl, inW3⟩
theorem p_RX3_98 : wFP RX3 98 3 19 false (.int) := ⟨RX3, TX3, 20, tyX3, rfl, by decide, wIn 187 (by decide +kernel) rfl, inW3, rfl, rfl, tyX3_ok, nmX3, fun _ => rfl⟩
theorem f_RX4_11 : wF RX4 11 4 0 := ⟨RX4, TX4, 11, rfl, by decide, wIn 279 (by decide +kernel) rfl, inW4⟩
theorem p_RX4_11 : wFP RX4 11 4 0 true (.array .char) := ⟨RX4, TX4, 11, tyX4, rfl, by decide, wIn 279 (by decide +kernel) rfl, inW4, rfl, rfl, tyX4_ok, nmX4, fun _ => rfl⟩
theorem f_RX5_13 : wF RX5 13 5 0 := ⟨RX5, TX5, 3, rfl, by decide, wIn 70 (by decide +kernel) rfl, inW5⟩
theorem p_RX5_13 : wFP RX5 13 5 0 true (.array (.array .int)) := ⟨RX5, TX5, 3, tyX5, rfl, by decide, wIn 70 (by decide +kernel) rfl, inW5, rfl, rfl, tyX5_ok, nmX5, fun _ => rfl⟩
theorem f_RX5_16 : wF RX5 16 5 1 := ⟨RX5, TX5, 3, rfl, by decide, wIn 73 (by decide +kernel) rfl, inW5⟩
theorem p_RX5_16 : wFP RX5 16 5 1 false (.int) := ⟨RX5, TX5, 3, tyX5, rfl, by decide, wIn 73 (by decide +kernel) rfl, inW5, rfl, rfl, tyX5_ok, nmX5, fun _ => rfl⟩
theorem f_RX5_20 : wF RX5 20 5 2 := ⟨RX5, TX5, 3, rfl, by decide, wIn 74 (by decide +kernel) rfl, inW5⟩
theorem p_RX5_20 : wFP RX5 20 5 2 false (.int) := ⟨RX5, TX5, 3, tyX5, rfl, by decide, wIn 74 (by decide +kernel) rfl, inW5, rfl, rfl, tyX5_ok, nmX5, fun _ => rfl⟩
theorem b_yX2_init : wLB yX2_init cX2_init 2 (none) 0 := ⟨wIn 16 (by decide +kernel) rfl, wIn 37 (by decide +kernel) rfl, by decide +kernel, by decide +kernel, rfl, by decide, by decide +kernel⟩
theorem x_yX2_init : wLI yX2_init := ⟨rfl, wIn 36 (by decide +kernel) rfl⟩
theorem k_RX6_11 : wLk RX6 11 yX2_init := wIn 35 (by decide +kernel) rfl
theorem b_yX6_remember : wLB yX6_remember cX6_remember 1 (none) 0 := ⟨wIn 15 (by decide +kernel) rfl, wIn 467 (by decide +kernel) rfl, by decide +kernel, by decide +kernel, rfl, by decide, by decide +kernel⟩
theorem x_yX6_remember : wLV yX6_remember := ⟨wIn 466 (by decide +kernel) rfl, wIn 1 (by decide +kernel) rfl⟩
theorem k_RX6_37 : wLk RX6 37 yX6_remember := wIn 464 (by decide +kernel) rfl
theorem b_yX2_replaceSetting : wLB yX2_replaceSetting cX2_replaceSetting 4 (some .int) 2 := ⟨wIn 16 (by decide +kernel) rfl, wIn 515 (by decide +kernel) rfl, by decide +kernel, by decide +kernel, rfl, by decide, by decide +kernel⟩
theorem x_yX2_replaceSetting : wLV yX2_replaceSetting := ⟨wIn 513 (by decide +kernel) rfl, wIn 514 (by decide +kernel) rfl⟩
theorem k_RX6_40 : wLk RX6 40 yX2_replaceSetting := wIn 512 (by decide +kernel) rfl
theorem b_yX6_recorded : wLB yX6_recorded cX6_recorded 2 (some .int) 1 := ⟨wIn 15 (by decide +kernel) rfl, wIn 524 (by decide +kernel) rfl, by decide +kernel, by decide +kernel, rfl, by decide, by decide +kernel⟩
theorem x_yX6_recorded : wLV yX6_recorded := ⟨wIn 523 (by decide +kernel) rfl, wIn 4 (by decide +kernel) rfl⟩
theorem k_RX6_44 : wLk RX6 44 yX6_recorded := wIn 521 (by decide +kernel) rfl
theorem b_yX1_mark : wLB yX1_mark cX1_mark 3 (some .int) 2 := ⟨wIn 17 (by decide +kernel) rfl, wIn 535 (by decide +kernel) rfl, by decide +kernel, by decide +kernel, rfl, by decide, by decide +kernel⟩
theorem x_yX1_mark : wLV yX1_mark := ⟨wIn 533 (by decide +kernel) rfl, wIn 534 (by decide +kernel) rfl⟩
theorem k_RX6_52 : wLk RX6 52 yX1_mark := wIn 532 (by decide +kernel) rfl
theorem b_yX2_addAccount : wLB yX2_addAccount cX2_addAccount 3 (some .int) 2 := ⟨wIn 16 (by decide +kernel) rfl, wIn 549 (by decide +kernel) rfl, by decide +kernel, by decide +kernel, rfl, by decide, by decide +kernel⟩
theorem x_yX2_addAccount : wLV yX2_addAccount := ⟨wIn 547 (by decide +kernel) rfl, wIn 548 (by decide +kernel) rfl⟩
theorem k_RX6_57 : wLk RX6 57 yX2_addAccount := wIn 546 (by decide +kernel) rfl
theorem b_yX2_nameFeeder : wLB yX2_nameFeeder cX2_nameFeeder 4 (some .int) 2 := ⟨wIn 16 (by decide +kernel) rfl, wIn 562 (by decide +kernel) rfl, by decide +kernel, by decide +kernel, rfl, by decide, by decide +kernel⟩
theorem x_yX2_nameFeeder : wLV yX2_nameFeeder := ⟨wIn 560 (by decide +kernel) rfl, wIn 561 (by decide +kernel) rfl⟩
theorem k_RX6_60 : wLk RX6 60 yX2_nameFeeder := wIn 559 (by decide +kernel) rfl
theorem b_yX2_payIn : wLB yX2_payIn cX2_payIn 3 (some .int) 2 := ⟨wIn 16 (by decide +kernel) rfl, wIn 572 (by decide +kernel) rfl, by decide +kernel, by decide +kernel, rfl, by decide, by decide +kernel⟩
theorem x_yX2_payIn : wLV yX2_payIn := ⟨wIn 570 (by decide +kernel) rfl, wIn 571 (by decide +kernel) rfl⟩
theorem k_RX6_63 : wLk RX6 63 yX2_payIn := wIn 569 (by decide +kernel) rfl
theorem b_yX2_addOrder : wLB yX2_addOrder cX2_addOrder 8 (some .int) 6 := ⟨wIn 16 (by decide +kernel) rfl, wIn 585 (by decide +kernel) rfl, by decide +kernel, by decide +kernel, rfl, by decide, by decide +kernel⟩
theorem x_yX2_addOrder : wLV yX2_addOrder := ⟨wIn 583 (by decide +kernel) rfl, wIn 584 (by decide +kernel) rfl⟩
theorem k_RX6_66 : wLk RX6 66 yX2_addOrder := wIn 582 (by decide +kernel) rfl
theorem b_yX2_alterOrder : wLB yX2_alterOrder cX2_alterOrder 5 (some .int) 3 := ⟨wIn 16 (by decide +kernel) rfl, wIn 605 (by decide +kernel) rfl, by decide +kernel, by decide +kernel, rfl, by decide, by decide +kernel⟩
theorem x_yX2_alterOrder : wLV yX2_alterOrder := ⟨wIn 603 (by decide +kernel) rfl, wIn 604 (by decide +kernel) rfl⟩
theorem k_RX6_70 : wLk RX6 70 yX2_alterOrder := wIn 602 (by decide +kernel) rfl
theorem b_yX2_stopOrder : wLB yX2_stopOrder cX2_stopOrder 2 (some .int) 1 := ⟨wIn 16 (by decide +kernel) rfl, wIn 614 (by decide +kernel) rfl, by decide +kernel, by decide +kernel, rfl, by decide, by decide +kernel⟩
theorem x_yX2_stopOrder : wLV yX2_stopOrder := ⟨wIn 612 (by decide +kernel) rfl, wIn 613 (by decide +kernel) rfl⟩
theorem k_RX6_74 : wLk RX6 74 yX2_stopOrder := wIn 611 (by decide +kernel) rfl
theorem b_yX2_resumeOrder : wLB yX2_resumeOrder cX2_resumeOrder 2 (some .int) 1 := ⟨wIn 16 (by decide +kernel) rfl, wIn 622 (by decide +kernel) rfl, by decide +kernel, by decide +kernel, rfl, by decide, by decide +kernel⟩
theorem x_yX2_resumeOrder : wLV yX2_resumeOrder := ⟨wIn 620 (by decide +kernel) rfl, wIn 621 (by decide +kernel) rfl⟩
theorem k_RX6_77 : wLk RX6 77 yX2_resumeOrder := wIn 619 (by decide +kernel) rfl
theorem b_yX2_dropPayment : wLB yX2_dropPayment cX2_dropPayment 2 (some .int) 1 := ⟨wIn 16 (by decide +kernel) rfl, wIn 630 (by decide +kernel) rfl, by decide +kernel, by decide +kernel, rfl, by decide, by decide +kernel⟩
theorem x_yX2_dropPayment : wLV yX2_dropPayment := ⟨wIn 628 (by decide +kernel) rfl, wIn 629 (by decide +kernel) rfl⟩
theorem k_RX6_80 : wLk RX6 80 yX2_dropPayment := wIn 627 (by decide +kernel) rfl
theorem b_yX2_errorOfDays : wLB yX2_errorOfDays cX2_errorOfDays 2 (some .int) 1 := ⟨wIn 16 (by decide +kernel) rfl, wIn 646 (by decide +kernel) rfl, by decide +kernel, by decide +kernel, rfl, by decide, by decide +kernel⟩
theorem x_yX2_errorOfDays : wLV yX2_errorOfDays := ⟨wIn 644 (by decide +kernel) rfl, wIn 645 (by decide +kernel) rfl⟩
theorem k_RX6_83 : wLk RX6 83 yX2_errorOfDays := wIn 643 (by decide +kernel) rfl
theorem b_yX2_passDays : wLB yX2_passDays cX2_passDays 4 (some .int) 2 := ⟨wIn 16 (by decide +kernel) rfl, wIn 650 (by decide +kernel) rfl, by decide +kernel, by decide +kernel, rfl, by decide, by decide +kernel⟩
theorem x_yX2_passDays : wLV yX2_passDays := ⟨wIn 648 (by decide +kernel) rfl, wIn 649 (by decide +kernel) rfl⟩
theorem k_RX6_86 : wLk RX6 86 yX2_passDays := wIn 647 (by decide +kernel) rfl
theorem b_yX6_isBetween : wLB yX6_isBetween cX6_isBetween 3 (some .boolean) 3 := ⟨wIn 15 (by decide +kernel) rfl, wIn 443 (by decide +kernel) rfl, by decide +kernel, by decide +kernel, rfl, by decide, by decide +kernel⟩
theorem x_yX6_isBetween : wLS yX6_isBetween := wIn 442 (by decide +kernel) rfl
theorem k_RX6_93 : wLk RX6 93 yX6_isBetween := wIn 441 (by decide +kernel) rfl
theorem b_yX2_hasAccount : wLB yX2_hasAccount cX2_hasAccount 2 (some .boolean) 1 := ⟨wIn 16 (by decide +kernel) rfl, wIn 367 (by decide +kernel) rfl, by decide +kernel, by decide +kernel, rfl, by decide, by decide +kernel⟩
theorem x_yX2_hasAccount : wLV yX2_hasAccount := ⟨wIn 365 (by decide +kernel) rfl, wIn 366 (by decide +kernel) rfl⟩
theorem k_RX6_100 : wLk RX6 100 yX2_hasAccount := wIn 364 (by decide +kernel) rfl
theorem b_yX0_sumOf : wLB yX0_sumOf cX0_sumOf 2 (some .long) 1 := ⟨wIn 19 (by decide +kernel) rfl, wIn 372 (by decide +kernel) rfl, by decide +kernel, by decide +kernel, rfl, by decide, by decide +kernel⟩
theorem x_yX0_sumOf : wLV yX0_sumOf := ⟨wIn 370 (by decide +kernel) rfl, wIn 371 (by decide +kernel) rfl⟩
theorem k_RX6_110 : wLk RX6 110 yX0_sumOf := wIn 369 (by decide +kernel) rfl
theorem b_yX6_bitsOf : wLB yX6_bitsOf cX6_bitsOf 7 (some .long) 1 := ⟨wIn 15 (by decide +kernel) rfl, wIn 380 (by decide +kernel) rfl, by decide +kernel, by decide +kernel, rfl, by decide, by decide +kernel⟩
theorem x_yX6_bitsOf : wLS yX6_bitsOf := wIn 379 (by decide +kernel) rfl
theorem k_RX6_120 : wLk RX6 120 yX6_bitsOf := wIn 378 (by decide +kernel) rfl
theorem b_yX2_hasOrder : wLB yX2_hasOrder cX2_hasOrder 2 (some .boolean) 1 := ⟨wIn 16 (by decide +kernel) rfl, wIn 391 (by decide +kernel) rfl, by decide +kernel, by decide +kernel, rfl, by decide, by decide +kernel⟩
theorem x_yX2_hasOrder : wLV yX2_hasOrder := ⟨wIn 389 (by decide +kernel) rfl, wIn 390 (by decide +kernel) rfl⟩
theorem k_RX6_124 : wLk RX6 124 yX2_hasOrder := wIn 388 (by decide +kernel) rfl
theorem b_yX2_nextNominalDay : wLB yX2_nextNominalDay cX2_nextNominalDay 2 (some .int) 1 := ⟨wIn 16 (by decide +kernel) rfl, wIn 395 (by decide +kernel) rfl, by decide +kernel, by decide +kernel, rfl, by decide, by decide +kernel⟩
theorem x_yX2_nextNominalDay : wLV yX2_nextNominalDay := ⟨wIn 393 (by decide +kernel) rfl, wIn 394 (by decide +kernel) rfl⟩
theorem k_RX6_127 : wLk RX6 127 yX2_nextNominalDay := wIn 392 (by decide +kernel) rfl
theorem b_yX3_numberOf : wLB yX3_numberOf cX3_numberOf 2 (some .int) 1 := ⟨wIn 20 (by decide +kernel) rfl, wIn 346 (by decide +kernel) rfl, by decide +kernel, by decide +kernel, rfl, by decide, by decide +kernel⟩
theorem x_yX3_numberOf : wLV yX3_numberOf := ⟨wIn 344 (by decide +kernel) rfl, wIn 345 (by decide +kernel) rfl⟩
theorem k_RX6_134 : wLk RX6 134 yX3_numberOf := wIn 436 (by decide +kernel) rfl
theorem b_yX2_numberOf : wLB yX2_numberOf cX2_numberOf 2 (some .int) 1 := ⟨wIn 16 (by decide +kernel) rfl, wIn 338 (by decide +kernel) rfl, by decide +kernel, by decide +kernel, rfl, by decide, by decide +kernel⟩
theorem x_yX2_numberOf : wLV yX2_numberOf := ⟨wIn 336 (by decide +kernel) rfl, wIn 337 (by decide +kernel) rfl⟩
theorem k_RX6_157 : wLk RX6 157 yX2_numberOf := wIn 335 (by decide +kernel) rfl
theorem b_yX3_dateBehindNext : wLB yX3_dateBehindNext cX3_dateBehindNext 4 (some .int) 2 := ⟨wIn 20 (by decide +kernel) rfl, wIn 447 (by decide +kernel) rfl, by decide +kernel, by decide +kernel, rfl, by decide, by decide +kernel⟩
theorem x_yX3_dateBehindNext : wLV yX3_dateBehindNext := ⟨wIn 445 (by decide +kernel) rfl, wIn 446 (by decide +kernel) rfl⟩
theorem k_RX6_158 : wLk RX6 158 yX3_dateBehindNext := wIn 444 (by decide +kernel) rfl
theorem b_yX2_copyFrom : wLB yX2_copyFrom cX2_copyFrom 3 (none) 1 := ⟨wIn 16 (by decide +kernel) rfl, wIn 475 (by decide +kernel) rfl, by decide +kernel, by decide +kernel, rfl, by decide, by decide +kernel⟩
theorem x_yX2_copyFrom : wLV yX2_copyFrom := ⟨wIn 473 (by decide +kernel) rfl, wIn 474 (by decide +kernel) rfl⟩
theorem k_RX6_167 : wLk RX6 167 yX2_copyFrom := wIn 472 (by decide +kernel) rfl
theorem b_yX6_isError : wLB yX6_isError cX6_isError 1 (some .boolean) 1 := ⟨wIn 15 (by decide +kernel) rfl, wIn 527 (by decide +kernel) rfl, by decide +kernel, by decide +kernel, rfl, by decide, by decide +kernel⟩
theorem x_yX6_isError : wLS yX6_isError := wIn 526 (by decide +kernel) rfl
theorem k_RX6_209 : wLk RX6 209 yX6_isError := wIn 525 (by decide +kernel) rfl
theorem b_yX6_rowBehindLatest : wLB yX6_rowBehindLatest cX6_rowBehindLatest 1 (some .int) 0 := ⟨wIn 15 (by decide +kernel) rfl, wIn 471 (by decide +kernel) rfl, by decide +kernel, by decide +kernel, rfl, by decide, by decide +kernel⟩
theorem x_yX6_rowBehindLatest : wLV yX6_rowBehindLatest := ⟨wIn 470 (by decide +kernel) rfl, wIn 2 (by decide +kernel) rfl⟩
theorem k_RX6_212 : wLk RX6 212 yX6_rowBehindLatest := wIn 468 (by decide +kernel) rfl
theorem b_yX1_isBusiness : wLB yX1_isBusiness cX1_isBusiness 2 (some .boolean) 1 := ⟨wIn 17 (by decide +kernel) rfl, wIn 425 (by decide +kernel) rfl, by decide +kernel, by decide +kernel, rfl, by decide, by decide +kernel⟩
theorem x_yX1_isBusiness : wLV yX1_isBusiness := ⟨wIn 423 (by decide +kernel) rfl, wIn 424 (by decide +kernel) rfl⟩
theorem k_RX1_32 : wLk RX1 32 yX1_isBusiness := wIn 422 (by decide +kernel) rfl
theorem b_yX1_lastBusiness : wLB yX1_lastBusiness cX1_lastBusiness 3 (some .int) 1 := ⟨wIn 17 (by decide +kernel) rfl, wIn 421 (by decide +kernel) rfl, by decide +kernel, by decide +kernel, rfl, by decide, by decide +kernel⟩
theorem x_yX1_lastBusiness : wLV yX1_lastBusiness := ⟨wIn 419 (by decide +kernel) rfl, wIn 420 (by decide +kernel) rfl⟩
theorem k_RX1_36 : wLk RX1 36 yX1_lastBusiness := wIn 430 (by decide +kernel) rfl
theorem b_yX1_nextBusiness : wLB yX1_nextBusiness cX1_nextBusiness 3 (some .int) 1 := ⟨wIn 17 (by decide +kernel) rfl, wIn 434 (by decide +kernel) rfl, by decide +kernel, by decide +kernel, rfl, by decide, by decide +kernel⟩
theorem x_yX1_nextBusiness : wLV yX1_nextBusiness := ⟨wIn 432 (by decide +kernel) rfl, wIn 433 (by decide +kernel) rfl⟩
theorem k_RX1_40 : wLk RX1 40 yX1_nextBusiness := wIn 431 (by decide +kernel) rfl
theorem b_yX1_monthOf : wLB yX1_monthOf cX1_monthOf 3 (some .int) 1 := ⟨wIn 17 (by decide +kernel) rfl, wIn 406 (by decide +kernel) rfl, by decide +kernel, by decide +kernel, rfl, by decide, by decide +kernel⟩
theorem x_yX1_monthOf : wLS yX1_monthOf := wIn 405 (by decide +kernel) rfl
theorem k_RX1_43 : wLk RX1 43 yX1_monthOf := wIn 435 (by decide +kernel) rfl
theorem b_yX1_isHoliday : wLB yX1_isHoliday cX1_isHoliday 2 (some .boolean) 1 := ⟨wIn 17 (by decide +kernel) rfl, wIn 540 (by decide +kernel) rfl, by decide +kernel, by decide +kernel, rfl, by decide, by decide +kernel⟩
theorem x_yX1_isHoliday : wLV yX1_isHoliday := ⟨wIn 538 (by decide +kernel) rfl, wIn 539 (by decide +kernel) rfl⟩
theorem k_RX1_50 : wLk RX1 50 yX1_isHoliday := wIn 537 (by decide +kernel) rfl
theorem b_yX1_copyFrom : wLB yX1_copyFrom cX1_copyFrom 2 (none) 1 := ⟨wIn 17 (by decide +kernel) rfl, wIn 479 (by decide +kernel) rfl, by decide +kernel, by decide +kernel, rfl, by decide, by decide +kernel⟩
theorem x_yX1_copyFrom : wLV yX1_copyFrom := ⟨wIn 477 (by decide +kernel) rfl, wIn 478 (by decide +kernel) rfl⟩
theorem k_RX2_49 : wLk RX2 49 yX1_copyFrom := wIn 476 (by decide +kernel) rfl
theorem b_yX0_copyFrom : wLB yX0_copyFrom cX0_copyFrom 2 (none) 1 := ⟨wIn 19 (by decide +kernel) rfl, wIn 486 (by decide +kernel) rfl, by decide +kernel, by decide +kernel, rfl, by decide, by decide +kernel⟩
theorem x_yX0_copyFrom : wLV yX0_copyFrom := ⟨wIn 484 (by decide +kernel) rfl, wIn 485 (by decide +kernel) rfl⟩
theorem k_RX2_56 : wLk RX2 56 yX0_copyFrom := wIn 483 (by decide +kernel) rfl
theorem b_yX3_copyFrom : wLB yX3_copyFrom cX3_copyFrom 2 (none) 1 := ⟨wIn 20 (by decide +kernel) rfl, wIn 490 (by decide +kernel) rfl, by decide +kernel, by decide +kernel, rfl, by decide, by decide +kernel⟩
theorem x_yX3_copyFrom : wLV yX3_copyFrom := ⟨wIn 488 (by decide +kernel) rfl, wIn 489 (by decide +kernel) rfl⟩
theorem k_RX2_62 : wLk RX2 62 yX3_copyFrom := wIn 487 (by decide +kernel) rfl
theorem b_yX5_copyFrom : wLB yX5_copyFrom cX5_copyFrom 3 (none) 1 := ⟨wIn 18 (by decide +kernel) rfl, wIn 494 (by decide +kernel) rfl, by decide +kernel, by decide +kernel, rfl, by decide, by decide +kernel⟩
theorem x_yX5_copyFrom : wLV yX5_copyFrom := ⟨wIn 492 (by decide +kernel) rfl, wIn 493 (by decide +kernel) rfl⟩
theorem k_RX2_65 : wLk RX2 65 yX5_copyFrom := wIn 491 (by decide +kernel) rfl
theorem b_yX2_settingOf : wLB yX2_settingOf cX2_settingOf 2 (some .int) 1 := ⟨wIn 16 (by decide +kernel) rfl, wIn 350 (by decide +kernel) rfl, by decide +kernel, by decide +kernel, rfl, by decide, by decide +kernel⟩
theorem x_yX2_settingOf : wLV yX2_settingOf := ⟨wIn 348 (by decide +kernel) rfl, wIn 349 (by decide +kernel) rfl⟩
theorem k_RX2_88 : wLk RX2 88 yX2_settingOf := wIn 347 (by decide +kernel) rfl
theorem b_yX0_open : wLB yX0_open cX0_open 3 (none) 2 := ⟨wIn 19 (by decide +kernel) rfl, wIn 554 (by decide +kernel) rfl, by decide +kernel, by decide +kernel, rfl, by decide, by decide +kernel⟩
theorem x_yX0_open : wLV yX0_open := ⟨wIn 552 (by decide +kernel) rfl, wIn 553 (by decide +kernel) rfl⟩
theorem k_RX2_93 : wLk RX2 93 yX0_open := wIn 551 (by decide +kernel) rfl
theorem k_RX2_97 : wLk RX2 97 yX2_hasAccount := wIn 563 (by decide +kernel) rfl
theorem b_yX2_areDates : wLB yX2_areDates cX2_areDates 1 (some .boolean) 1 := ⟨wIn 16 (by decide +kernel) rfl, wIn 588 (by decide +kernel) rfl, by decide +kernel, by decide +kernel, rfl, by decide, by decide +kernel⟩
theorem x_yX2_areDates : wLS yX2_areDates := wIn 587 (by decide +kernel) rfl
theorem k_RX2_112 : wLk RX2 112 yX2_areDates := wIn 586 (by decide +kernel) rfl
theorem b_yX3_begin : wLB yX3_begin cX3_begin 7 (none) 6 := ⟨wIn 20 (by decide +kernel) rfl, wIn 593 (by decide +kernel) rfl, by decide +kernel, by decide +kernel, rfl, by decide, by decide +kernel⟩
theorem x_yX3_begin : wLV yX3_begin := ⟨wIn 591 (by decide +kernel) rfl, wIn 592 (by decide +kernel) rfl⟩
theorem k_RX2_115 : wLk RX2 115 yX3_begin := wIn 590 (by decide +kernel) rfl
theorem b_yX3_leaveOutBefore : wLB yX3_leaveOutBefore cX3_leaveOutBefore 5 (some .int) 2 := ⟨wIn 20 (by decide +kernel) rfl, wIn 597 (by decide +kernel) rfl, by decide +kernel, by decide +kernel, rfl, by decide, by decide +kernel⟩
theorem x_yX3_leaveOutBefore : wLV yX3_leaveOutBefore := ⟨wIn 595 (by decide +kernel) rfl, wIn 596 (by decide +kernel) rfl⟩
theorem k_RX2_119 : wLk RX2 119 yX3_leaveOutBefore := wIn 594 (by decide +kernel) rfl
theorem k_RX2_124 : wLk RX2 124 yX2_hasOrder := wIn 606 (by decide +kernel) rfl
theorem b_yX2_settle : wLB yX2_settle cX2_settle 3 (none) 1 := ⟨wIn 16 (by decide +kernel) rfl, wIn 634 (by decide +kernel) rfl, by decide +kernel, by decide +kernel, rfl, by decide, by decide +kernel⟩
theorem x_yX2_settle : wLV yX2_settle := ⟨wIn 633 (by decide +kernel) rfl, wIn 5 (by decide +kernel) rfl⟩
theorem k_RX2_148 : wLk RX2 148 yX2_settle := wIn 631 (by decide +kernel) rfl
theorem b_yX5_dropSettled : wLB yX5_dropSettled cX5_dropSettled 4 (none) 0 := ⟨wIn 18 (by decide +kernel) rfl, wIn 638 (by decide +kernel) rfl, by decide +kernel, by decide +kernel, rfl, by decide, by decide +kernel⟩
theorem x_yX5_dropSettled : wLV yX5_dropSettled := ⟨wIn 636 (by decide +kernel) rfl, wIn 637 (by decide +kernel) rfl⟩
theorem k_RX2_152 : wLk RX2 152 yX5_dropSettled := wIn 635 (by decide +kernel) rfl
theorem b_yX3_aim : wLB yX3_aim cX3_aim 2 (none) 1 := ⟨wIn 20 (by decide +kernel) rfl, wIn 399 (by decide +kernel) rfl, by decide +kernel, by decide +kernel, rfl, by decide, by decide +kernel⟩
theorem x_yX3_aim : wLV yX3_aim := ⟨wIn 397 (by decide +kernel) rfl, wIn 398 (by decide +kernel) rfl⟩
theorem k_RX2_155 : wLk RX2 155 yX3_aim := wIn 396 (by decide +kernel) rfl
theorem b_yX2_sumOverOrders : wLB yX2_sumOverOrders cX2_sumOverOrders 4 (some .int) 1 := ⟨wIn 16 (by decide +kernel) rfl, wIn 342 (by decide +kernel) rfl, by decide +kernel, by decide +kernel, rfl, by decide, by decide +kernel⟩
theorem x_yX2_sumOverOrders : wLV yX2_sumOverOrders := ⟨wIn 341 (by decide +kernel) rfl, wIn 0 (by decide +kernel) rfl⟩
theorem k_RX2_164 : wLk RX2 164 yX2_sumOverOrders := wIn 339 (by decide +kernel) rfl
theorem k_RX2_167 : wLk RX2 167 yX3_numberOf := wIn 343 (by decide +kernel) rfl
theorem b_yX2_makePaymentsDue : wLB yX2_makePaymentsDue cX2_makePaymentsDue 4 (none) 0 := ⟨wIn 16 (by decide +kernel) rfl, wIn 654 (by decide +kernel) rfl, by decide +kernel, by decide +kernel, rfl, by decide, by decide +kernel⟩
theorem x_yX2_makePaymentsDue : wLV yX2_makePaymentsDue := ⟨wIn 653 (by decide +kernel) rfl, wIn 6 (by decide +kernel) rfl⟩
theorem k_RX2_173 : wLk RX2 173 yX2_makePaymentsDue := wIn 651 (by decide +kernel) rfl
theorem b_yX2_sweep : wLB yX2_sweep cX2_sweep 8 (none) 0 := ⟨wIn 16 (by decide +kernel) rfl, wIn 672 (by decide +kernel) rfl, by decide +kernel, by decide +kernel, rfl, by decide, by decide +kernel⟩
theorem x_yX2_sweep : wLV yX2_sweep := ⟨wIn 671 (by decide +kernel) rfl, wIn 8 (by decide +kernel) rfl⟩
theorem k_RX2_176 : wLk RX2 176 yX2_sweep := wIn 669 (by decide +kernel) rfl
theorem k_RX2_179 : wLk RX2 179 yX1_isBusiness := wIn 663 (by decide +kernel) rfl
theorem b_yX2_payWaiting : wLB yX2_payWaiting cX2_payWaiting 3 (none) 0 := ⟨wIn 16 (by decide +kernel) rfl, wIn 679 (by decide +kernel) rfl, by decide +kernel, by decide +kernel, rfl, by decide, by decide +kernel⟩
theorem x_yX2_payWaiting : wLV yX2_payWaiting := ⟨wIn 678 (by decide +kernel) rfl, wIn 9 (by decide +kernel) rfl⟩
theorem k_RX2_182 : wLk RX2 182 yX2_payWaiting := wIn 676 (by decide +kernel) rfl
theorem b_yX2_chargeInterest : wLB yX2_chargeInterest cX2_chargeInterest 5 (none) 0 := ⟨wIn 16 (by decide +kernel) rfl, wIn 695 (by decide +kernel) rfl, by decide +kernel, by decide +kernel, rfl, by decide, by decide +kernel⟩
theorem x_yX2_chargeInterest : wLV yX2_chargeInterest := ⟨wIn 694 (by decide +kernel) rfl, wIn 13 (by decide +kernel) rfl⟩
theorem k_RX2_185 : wLk RX2 185 yX2_chargeInterest := wIn 692 (by decide +kernel) rfl
theorem b_yX3_hasPaymentsLeft : wLB yX3_hasPaymentsLeft cX3_hasPaymentsLeft 1 (some .boolean) 0 := ⟨wIn 20 (by decide +kernel) rfl, wIn 658 (by decide +kernel) rfl, by decide +kernel, by decide +kernel, rfl, by decide, by decide +kernel⟩
theorem x_yX3_hasPaymentsLeft : wLV yX3_hasPaymentsLeft := ⟨wIn 656 (by decide +kernel) rfl, wIn 657 (by decide +kernel) rfl⟩
theorem k_RX2_188 : wLk RX2 188 yX3_hasPaymentsLeft := wIn 655 (by decide +kernel) rfl
theorem b_yX2_takeNextOccurrence : wLB yX2_takeNextOccurrence cX2_takeNextOccurrence 3 (none) 1 := ⟨wIn 16 (by decide +kernel) rfl, wIn 662 (by decide +kernel) rfl, by decide +kernel, by decide +kernel, rfl, by decide, by decide +kernel⟩
theorem x_yX2_takeNextOccurrence : wLV yX2_takeNextOccurrence := ⟨wIn 661 (by decide +kernel) rfl, wIn 7 (by decide +kernel) rfl⟩
theorem k_RX2_195 : wLk RX2 195 yX2_takeNextOccurrence := wIn 659 (by decide +kernel) rfl
theorem b_yX5_add : wLB yX5_add cX5_add 5 (some .boolean) 4 := ⟨wIn 18 (by decide +kernel) rfl, wIn 667 (by decide +kernel) rfl, by decide +kernel, by decide +kernel, rfl, by decide, by decide +kernel⟩
theorem x_yX5_add : wLV yX5_add := ⟨wIn 665 (by decide +kernel) rfl, wIn 666 (by decide +kernel) rfl⟩
theorem k_RX2_217 : wLk RX2 217 yX5_add := wIn 664 (by decide +kernel) rfl
theorem k_RX2_233 : Cond.methodLink RX2 233 Lib.MathLoose.min_long.x ∈ wAll := wIn 673 (by decide +kernel) rfl
theorem b_yX2_payWaitingOf : wLB yX2_payWaitingOf cX2_payWaitingOf 3 (none) 1 := ⟨wIn 16 (by decide +kernel) rfl, wIn 683 (by decide +kernel) rfl, by decide +kernel, by decide +kernel, rfl, by decide, by decide +kernel⟩
theorem x_yX2_payWaitingOf : wLV yX2_payWaitingOf := ⟨wIn 682 (by decide +kernel) rfl, wIn 10 (by decide +kernel) rfl⟩
theorem k_RX2_245 : wLk RX2 245 yX2_payWaitingOf := wIn 680 (by decide +kernel) rfl
theorem b_yX2_tryPayment : wLB yX2_tryPayment cX2_tryPayment 5 (none) 1 := ⟨wIn 16 (by decide +kernel) rfl, wIn 687 (by decide +kernel) rfl, by decide +kernel, by decide +kernel, rfl, by decide, by decide +kernel⟩
theorem x_yX2_tryPayment : wLV yX2_tryPayment := ⟨wIn 686 (by decide +kernel) rfl, wIn 11 (by decide +kernel) rfl⟩
theorem k_RX2_248 : wLk RX2 248 yX2_tryPayment := wIn 684 (by decide +kernel) rfl
theorem b_yX2_failTry : wLB yX2_failTry cX2_failTry 3 (none) 1 := ⟨wIn 16 (by decide +kernel) rfl, wIn 691 (by decide +kernel) rfl, by decide +kernel, by decide +kernel, rfl, by decide, by decide +kernel⟩
theorem x_yX2_failTry : wLV yX2_failTry := ⟨wIn 690 (by decide +kernel) rfl, wIn 12 (by decide +kernel) rfl⟩
theorem k_RX2_251 : wLk RX2 251 yX2_failTry := wIn 688 (by decide +kernel) rfl
theorem k_RX2_270 : wLk RX2 270 yX1_monthOf := wIn 697 (by decide +kernel) rfl
theorem b_yX1_lastDayOf : wLB yX1_lastDayOf cX1_lastDayOf 1 (some .int) 1 := ⟨wIn 17 (by decide +kernel) rfl, wIn 414 (by decide +kernel) rfl, by decide +kernel, by decide +kernel, rfl, by decide, by decide +kernel⟩
theorem x_yX1_lastDayOf : wLS yX1_lastDayOf := wIn 413 (by decide +kernel) rfl
theorem k_RX2_273 : wLk RX2 273 yX1_lastDayOf := wIn 698 (by decide +kernel) rfl
theorem b_yX0_takeInterest : wLB yX0_takeInterest cX0_takeInterest 3 (none) 0 := ⟨wIn 19 (by decide +kernel) rfl, wIn 703 (by decide +kernel) rfl, by decide +kernel, by decide +kernel, rfl, by decide, by decide +kernel⟩
theorem x_yX0_takeInterest : wLV yX0_takeInterest := ⟨wIn 701 (by decide +kernel) rfl, wIn 702 (by decide +kernel) rfl⟩
theorem k_RX2_282 : wLk RX2 282 yX0_takeInterest := wIn 700 (by decide +kernel) rfl
theorem k_RX3_64 : wLk RX3 64 yX1_monthOf := wIn 404 (by decide +kernel) rfl
theorem b_yX1_firstDayOf : wLB yX1_firstDayOf cX1_firstDayOf 1 (some .int) 1 := ⟨wIn 17 (by decide +kernel) rfl, wIn 411 (by decide +kernel) rfl, by decide +kernel, by decide +kernel, rfl, by decide, by decide +kernel⟩
theorem x_yX1_firstDayOf : wLS yX1_firstDayOf := wIn 410 (by decide +kernel) rfl
theorem k_RX3_70 : wLk RX3 70 yX1_firstDayOf := wIn 409 (by decide +kernel) rfl
theorem k_RX3_73 : wLk RX3 73 yX1_lastDayOf := wIn 412 (by decide +kernel) rfl
theorem k_RX3_76 : Cond.methodLink RX3 76 Lib.Math.min.name ∈ wAll := wIn 415 (by decide +kernel) rfl
theorem k_RX3_82 : wLk RX3 82 yX1_lastBusiness := wIn 418 (by decide +kernel) rfl
theorem b_yX3_nominalDay : wLB yX3_nominalDay cX3_nominalDay 7 (some .int) 2 := ⟨wIn 20 (by decide +kernel) rfl, wIn 403 (by decide +kernel) rfl, by decide +kernel, by decide +kernel, rfl, by decide, by decide +kernel⟩
theorem x_yX3_nominalDay : wLV yX3_nominalDay := ⟨wIn 401 (by decide +kernel) rfl, wIn 402 (by decide +kernel) rfl⟩
theorem k_RX3_88 : wLk RX3 88 yX3_nominalDay := wIn 400 (by decide +kernel) rfl
theorem b_yX1_shifted : wLB yX1_shifted cX1_shifted 4 (some .int) 2 := ⟨wIn 17 (by decide +kernel) rfl, wIn 429 (by decide +kernel) rfl, by decide +kernel, by decide +kernel, rfl, by decide, by decide +kernel⟩
theorem x_yX1_shifted : wLV yX1_shifted := ⟨wIn 427 (by decide +kernel) rfl, wIn 428 (by decide +kernel) rfl⟩
theorem k_RX3_95 : wLk RX3 95 yX1_shifted := wIn 426 (by decide +kernel) rfl
theorem k_RX3_101 : wLk RX3 101 yX3_aim := wIn 448 (by decide +kernel) rfl
theorem b_yX5_makeRoom : wLB yX5_makeRoom cX5_makeRoom 3 (none) 1 := ⟨wIn 18 (by decide +kernel) rfl, wIn 498 (by decide +kernel) rfl, by decide +kernel, by decide +kernel, rfl, by decide, by decide +kernel⟩
theorem x_yX5_makeRoom : wLV yX5_makeRoom := ⟨wIn 497 (by decide +kernel) rfl, wIn 3 (by decide +kernel) rfl⟩
theorem k_RX5_23 : wLk RX5 23 yX5_makeRoom := wIn 495 (by decide +kernel) rfl
theorem b_yJ7_copyOf_59c91 : wLB yJ7_copyOf_59c91 cJ7_copyOf_59c91 3 (some (.array .int)) 2 := ⟨wIn 24 (by decide +kernel) rfl, wIn 501 (by decide +kernel) rfl, by decide +kernel, by decide +kernel, rfl, by decide, by decide +kernel⟩
theorem x_yJ7_copyOf_59c91 : wLS yJ7_copyOf_59c91 := wIn 500 (by decide +kernel) rfl
theorem k_RX5_33 : wLk RX5 33 yJ7_copyOf_59c91 := wIn 499 (by decide +kernel) rfl
theorem k_RX5_39 : Cond.methodLink RX5 39 Lib.Math.min.name ∈ wAll := wIn 668 (by decide +kernel) rfl
theorem b_yX6_count : wLB yX6_count cX6_count 2 (some .int) 1 := ⟨wIn 15 (by decide +kernel) rfl, wIn 334 (by decide +kernel) rfl, by decide +kernel, by decide +kernel, rfl, by decide, by decide +kernel⟩
theorem x_yX6_count : wLV yX6_count := ⟨wIn 332 (by decide +kernel) rfl, wIn 333 (by decide +kernel) rfl⟩
theorem k_RL_13 : wLk RL 13 yX6_count := wIn 331 (by decide +kernel) rfl
theorem b_yX6_money : wLB yX6_money cX6_money 3 (some .long) 2 := ⟨wIn 15 (by decide +kernel) rfl, wIn 363 (by decide +kernel) rfl, by decide +kernel, by decide +kernel, rfl, by decide, by decide +kernel⟩
theorem x_yX6_money : wLV yX6_money := ⟨wIn 361 (by decide +kernel) rfl, wIn 362 (by decide +kernel) rfl⟩
theorem k_RL_19 : wLk RL 19 yX6_money := wIn 360 (by decide +kernel) rfl
theorem b_yX6_owedBits : wLB yX6_owedBits cX6_owedBits 2 (some .long) 1 := ⟨wIn 15 (by decide +kernel) rfl, wIn 377 (by decide +kernel) rfl, by decide +kernel, by decide +kernel, rfl, by decide, by decide +kernel⟩
theorem x_yX6_owedBits : wLV yX6_owedBits := ⟨wIn 375 (by decide +kernel) rfl, wIn 376 (by decide +kernel) rfl⟩
theorem k_RL_23 : wLk RL 23 yX6_owedBits := wIn 374 (by decide +kernel) rfl
theorem b_yX6_ofOrder : wLB yX6_ofOrder cX6_ofOrder 3 (some .int) 2 := ⟨wIn 15 (by decide +kernel) rfl, wIn 387 (by decide +kernel) rfl, by decide +kernel, by decide +kernel, rfl, by decide, by decide +kernel⟩
theorem x_yX6_ofOrder : wLV yX6_ofOrder := ⟨wIn 385 (by decide +kernel) rfl, wIn 386 (by decide +kernel) rfl⟩
theorem k_RL_27 : wLk RL 27 yX6_ofOrder := wIn 384 (by decide +kernel) rfl
theorem b_yX6_dateOf : wLB yX6_dateOf cX6_dateOf 3 (some .int) 2 := ⟨wIn 15 (by decide +kernel) rfl, wIn 440 (by decide +kernel) rfl, by decide +kernel, by decide +kernel, rfl, by decide, by decide +kernel⟩
theorem x_yX6_dateOf : wLV yX6_dateOf := ⟨wIn 438 (by decide +kernel) rfl, wIn 439 (by decide +kernel) rfl⟩
theorem k_RL_31 : wLk RL 31 yX6_dateOf := wIn 437 (by decide +kernel) rfl
theorem b_yX6_ofPayment : wLB yX6_ofPayment cX6_ofPayment 3 (some .int) 2 := ⟨wIn 15 (by decide +kernel) rfl, wIn 452 (by decide +kernel) rfl, by decide +kernel, by decide +kernel, rfl, by decide, by decide +kernel⟩
theorem x_yX6_ofPayment : wLV yX6_ofPayment := ⟨wIn 450 (by decide +kernel) rfl, wIn 451 (by decide +kernel) rfl⟩
theorem k_RL_34 : wLk RL 34 yX6_ofPayment := wIn 449 (by decide +kernel) rfl
theorem b_yL_up : wLB yL_up cL_up 2 (some .int) 2 := ⟨wIn 14 (by decide +kernel) rfl, wIn 458 (by decide +kernel) rfl, by decide +kernel, by decide +kernel, rfl, by decide, by decide +kernel⟩
theorem x_yL_up : wLS yL_up := wIn 457 (by decide +kernel) rfl
theorem k_RL_37 : wLk RL 37 yL_up := wIn 456 (by decide +kernel) rfl
theorem b_yX6_order : wLB yX6_order cX6_order 7 (some .int) 6 := ⟨wIn 15 (by decide +kernel) rfl, wIn 581 (by decide +kernel) rfl, by decide +kernel, by decide +kernel, rfl, by decide, by decide +kernel⟩
theorem x_yX6_order : wLV yX6_order := ⟨wIn 579 (by decide +kernel) rfl, wIn 580 (by decide +kernel) rfl⟩
theorem k_RL_43 : wLk RL 43 yX6_order := wIn 578 (by decide +kernel) rfl
theorem b_yX6_set : wLB yX6_set cX6_set 3 (some .int) 2 := ⟨wIn 15 (by decide +kernel) rfl, wIn 463 (by decide +kernel) rfl, by decide +kernel, by decide +kernel, rfl, by decide, by decide +kernel⟩
theorem x_yX6_set : wLV yX6_set := ⟨wIn 461 (by decide +kernel) rfl, wIn 462 (by decide +kernel) rfl⟩
theorem k_RL_47 : wLk RL 47 yX6_set := wIn 460 (by decide +kernel) rfl
theorem b_yX6_holiday : wLB yX6_holiday cX6_holiday 3 (some .int) 2 := ⟨wIn 15 (by decide +kernel) rfl, wIn 531 (by decide +kernel) rfl, by decide +kernel, by decide +kernel, rfl, by decide, by decide +kernel⟩
theorem x_yX6_holiday : wLV yX6_holiday := ⟨wIn 529 (by decide +kernel) rfl, wIn 530 (by decide +kernel) rfl⟩
theorem k_RL_50 : wLk RL 50 yX6_holiday := wIn 528 (by decide +kernel) rfl
theorem b_yX6_account : wLB yX6_account cX6_account 3 (some .int) 2 := ⟨wIn 15 (by decide +kernel) rfl, wIn 545 (by decide +kernel) rfl, by decide +kernel, by decide +kernel, rfl, by decide, by decide +kernel⟩
theorem x_yX6_account : wLV yX6_account := ⟨wIn 543 (by decide +kernel) rfl, wIn 544 (by decide +kernel) rfl⟩
theorem k_RL_53 : wLk RL 53 yX6_account := wIn 542 (by decide +kernel) rfl
theorem b_yX6_deposit : wLB yX6_deposit cX6_deposit 3 (some .int) 2 := ⟨wIn 15 (by decide +kernel) rfl, wIn 568 (by decide +kernel) rfl, by decide +kernel, by decide +kernel, rfl, by decide, by decide +kernel⟩
theorem x_yX6_deposit : wLV yX6_deposit := ⟨wIn 566 (by decide +kernel) rfl, wIn 567 (by decide +kernel) rfl⟩
theorem k_RL_56 : wLk RL 56 yX6_deposit := wIn 565 (by decide +kernel) rfl
theorem b_yX6_change : wLB yX6_change cX6_change 4 (some .int) 3 := ⟨wIn 15 (by decide +kernel) rfl, wIn 601 (by decide +kernel) rfl, by decide +kernel, by decide +kernel, rfl, by decide, by decide +kernel⟩
theorem x_yX6_change : wLV yX6_change := ⟨wIn 599 (by decide +kernel) rfl, wIn 600 (by decide +kernel) rfl⟩
theorem k_RL_59 : wLk RL 59 yX6_change := wIn 598 (by decide +kernel) rfl
theorem b_yX6_giveUp : wLB yX6_giveUp cX6_giveUp 2 (some .int) 1 := ⟨wIn 15 (by decide +kernel) rfl, wIn 626 (by decide +kernel) rfl, by decide +kernel, by decide +kernel, rfl, by decide, by decide +kernel⟩
theorem x_yX6_giveUp : wLV yX6_giveUp := ⟨wIn 624 (by decide +kernel) rfl, wIn 625 (by decide +kernel) rfl⟩
theorem k_RL_63 : wLk RL 63 yX6_giveUp := wIn 623 (by decide +kernel) rfl
theorem b_yX6_stop : wLB yX6_stop cX6_stop 2 (some .int) 1 := ⟨wIn 15 (by decide +kernel) rfl, wIn 610 (by decide +kernel) rfl, by decide +kernel, by decide +kernel, rfl, by decide, by decide +kernel⟩
theorem x_yX6_stop : wLV yX6_stop := ⟨wIn 608 (by decide +kernel) rfl, wIn 609 (by decide +kernel) rfl⟩
theorem k_RL_66 : wLk RL 66 yX6_stop := wIn 607 (by decide +kernel) rfl
theorem b_yX6_feed : wLB yX6_feed cX6_feed 3 (some .int) 2 := ⟨wIn 15 (by decide +kernel) rfl, wIn 558 (by decide +kernel) rfl, by decide +kernel, by decide +kernel, rfl, by decide, by decide +kernel⟩
theorem x_yX6_feed : wLV yX6_feed := ⟨wIn 556 (by decide +kernel) rfl, wIn 557 (by decide +kernel) rfl⟩
theorem k_RL_70 : wLk RL 70 yX6_feed := wIn 555 (by decide +kernel) rfl
theorem b_yL_order : wLB yL_order cL_order 7 (some .int) 3 := ⟨wIn 14 (by decide +kernel) rfl, wIn 576 (by decide +kernel) rfl, by decide +kernel, by decide +kernel, rfl, by decide, by decide +kernel⟩
theorem x_yL_order : wLS yL_order := wIn 575 (by decide +kernel) rfl
theorem k_RL_74 : wLk RL 74 yL_order := wIn 574 (by decide +kernel) rfl
theorem b_yX6_goOn : wLB yX6_goOn cX6_goOn 2 (some .int) 1 := ⟨wIn 15 (by decide +kernel) rfl, wIn 618 (by decide +kernel) rfl, by decide +kernel, by decide +kernel, rfl, by decide, by decide +kernel⟩
theorem x_yX6_goOn : wLV yX6_goOn := ⟨wIn 616 (by decide +kernel) rfl, wIn 617 (by decide +kernel) rfl⟩
theorem k_RL_77 : wLk RL 77 yX6_goOn := wIn 615 (by decide +kernel) rfl
theorem b_yX6_days : wLB yX6_days cX6_days 3 (some .int) 1 := ⟨wIn 15 (by decide +kernel) rfl, wIn 642 (by decide +kernel) rfl, by decide +kernel, by decide +kernel, rfl, by decide, by decide +kernel⟩
theorem x_yX6_days : wLV yX6_days := ⟨wIn 640 (by decide +kernel) rfl, wIn 641 (by decide +kernel) rfl⟩
theorem k_RL_80 : wLk RL 80 yX6_days := wIn 639 (by decide +kernel) rfl
theorem b_yL_any : wLB yL_any cL_any 3 (some .int) 3 := ⟨wIn 14 (by decide +kernel) rfl, wIn 706 (by decide +kernel) rfl, by decide +kernel, by decide +kernel, rfl, by decide, by decide +kernel⟩
theorem x_yL_any : wLS yL_any := wIn 705 (by decide +kernel) rfl
theorem k_RL_83 : wLk RL 83 yL_any := wIn 704 (by decide +kernel) rfl
theorem b_yX6_undo : wLB yX6_undo cX6_undo 1 (some .int) 0 := ⟨wIn 15 (by decide +kernel) rfl, wIn 719 (by decide +kernel) rfl, by decide +kernel, by decide +kernel, rfl, by decide, by decide +kernel⟩
theorem x_yX6_undo : wLV yX6_undo := ⟨wIn 717 (by decide +kernel) rfl, wIn 718 (by decide +kernel) rfl⟩
theorem k_RL_86 : wLk RL 86 yX6_undo := wIn 716 (by decide +kernel) rfl
theorem b_yL_view : wLB yL_view cL_view 5 (some .long) 1 := ⟨wIn 14 (by decide +kernel) rfl, wIn 357 (by decide +kernel) rfl, by decide +kernel, by decide +kernel, rfl, by decide, by decide +kernel⟩
theorem x_yL_view : wLS yL_view := wIn 356 (by decide +kernel) rfl
theorem k_RL_90 : wLk RL 90 yL_view := wIn 355 (by decide +kernel) rfl
theorem b_yL_turn : wLB yL_turn cL_turn 4 (some .int) 4 := ⟨wIn 14 (by decide +kernel) rfl, wIn 455 (by decide +kernel) rfl, by decide +kernel, by decide +kernel, rfl, by decide, by decide +kernel⟩
theorem x_yL_turn : wLS yL_turn := wIn 454 (by decide +kernel) rfl
theorem k_RL_94 : wLk RL 94 yL_turn := wIn 453 (by decide +kernel) rfl
theorem b_yX6_save : wLB yX6_save cX6_save 2 (some .int) 1 := ⟨wIn 15 (by decide +kernel) rfl, wIn 726 (by decide +kernel) rfl, by decide +kernel, by decide +kernel, rfl, by decide, by decide +kernel⟩
theorem x_yX6_save : wLV yX6_save := ⟨wIn 724 (by decide +kernel) rfl, wIn 725 (by decide +kernel) rfl⟩
theorem k_RL_98 : wLk RL 98 yX6_save := wIn 723 (by decide +kernel) rfl
theorem b_yX6_restore : wLB yX6_restore cX6_restore 2 (some .int) 1 := ⟨wIn 15 (by decide +kernel) rfl, wIn 730 (by decide +kernel) rfl, by decide +kernel, by decide +kernel, rfl, by decide, by decide +kernel⟩
theorem x_yX6_restore : wLV yX6_restore := ⟨wIn 728 (by decide +kernel) rfl, wIn 729 (by decide +kernel) rfl⟩
theorem k_RL_101 : wLk RL 101 yX6_restore := wIn 727 (by decide +kernel) rfl
theorem b_yX6_balanceIn : wLB yX6_balanceIn cX6_balanceIn 3 (some .long) 2 := ⟨wIn 15 (by decide +kernel) rfl, wIn 737 (by decide +kernel) rfl, by decide +kernel, by decide +kernel, rfl, by decide, by decide +kernel⟩
theorem x_yX6_balanceIn : wLV yX6_balanceIn := ⟨wIn 735 (by decide +kernel) rfl, wIn 736 (by decide +kernel) rfl⟩
theorem k_RL_104 : wLk RL 104 yX6_balanceIn := wIn 734 (by decide +kernel) rfl
theorem b_yX6_ahead : wLB yX6_ahead cX6_ahead 6 (some .int) 3 := ⟨wIn 15 (by decide +kernel) rfl, wIn 742 (by decide +kernel) rfl, by decide +kernel, by decide +kernel, rfl, by decide, by decide +kernel⟩
theorem x_yX6_ahead : wLV yX6_ahead := ⟨wIn 740 (by decide +kernel) rfl, wIn 741 (by decide +kernel) rfl⟩
theorem k_RL_107 : wLk RL 107 yX6_ahead := wIn 739 (by decide +kernel) rfl
theorem b_yX6_leastDeposit : wLB yX6_leastDeposit cX6_leastDeposit 4 (some .int) 2 := ⟨wIn 15 (by decide +kernel) rfl, wIn 746 (by decide +kernel) rfl, by decide +kernel, by decide +kernel, rfl, by decide, by decide +kernel⟩
theorem x_yX6_leastDeposit : wLV yX6_leastDeposit := ⟨wIn 744 (by decide +kernel) rfl, wIn 745 (by decide +kernel) rfl⟩
theorem k_RL_110 : wLk RL 110 yX6_leastDeposit := wIn 743 (by decide +kernel) rfl
theorem b_yX6_init : wLB yX6_init cX6_init 2 (none) 0 := ⟨wIn 15 (by decide +kernel) rfl, wIn 29 (by decide +kernel) rfl, by decide +kernel, by decide +kernel, rfl, by decide, by decide +kernel⟩
theorem x_yX6_init : wLI yX6_init := ⟨rfl, wIn 28 (by decide +kernel) rfl⟩
theorem k_RL_113 : wLk RL 113 yX6_init := wIn 27 (by decide +kernel) rfl
theorem b_yL_cell : wLB yL_cell cL_cell 2 (some .int) 2 := ⟨wIn 14 (by decide +kernel) rfl, wIn 353 (by decide +kernel) rfl, by decide +kernel, by decide +kernel, rfl, by decide, by decide +kernel⟩
theorem x_yL_cell : wLS yL_cell := wIn 352 (by decide +kernel) rfl
theorem k_RL_114 : wLk RL 114 yL_cell := wIn 351 (by decide +kernel) rfl
theorem b_yL_isUndone : wLB yL_isUndone cL_isUndone 8 (some .boolean) 6 := ⟨wIn 14 (by decide +kernel) rfl, wIn 715 (by decide +kernel) rfl, by decide +kernel, by decide +kernel, rfl, by decide, by decide +kernel⟩
theorem x_yL_isUndone : wLS yL_isUndone := wIn 714 (by decide +kernel) rfl
theorem k_RL_118 : wLk RL 118 yL_isUndone := wIn 713 (by decide +kernel) rfl
theorem b_yL_isSaved : wLB yL_isSaved cL_isSaved 6 (some .boolean) 3 := ⟨wIn 14 (by decide +kernel) rfl, wIn 722 (by decide +kernel) rfl, by decide +kernel, by decide +kernel, rfl, by decide, by decide +kernel⟩
theorem x_yL_isSaved : wLS yL_isSaved := wIn 721 (by decide +kernel) rfl
theorem k_RL_122 : wLk RL 122 yL_isSaved := wIn 720 (by decide +kernel) rfl
theorem b_yL_asks : wLB yL_asks cL_asks 6 (some .boolean) 3 := ⟨wIn 14 (by decide +kernel) rfl, wIn 733 (by decide +kernel) rfl, by decide +kernel, by decide +kernel, rfl, by decide, by decide +kernel⟩
theorem x_yL_asks : wLS yL_asks := wIn 732 (by decide +kernel) rfl
theorem k_RL_126 : wLk RL 126 yL_asks := wIn 731 (by decide +kernel) rfl
theorem b_yL_isBalanced : wLB yL_isBalanced cL_isBalanced 7 (some .boolean) 1 := ⟨wIn 14 (by decide +kernel) rfl, wIn 709 (by decide +kernel) rfl, by decide +kernel, by decide +kernel, rfl, by decide, by decide +kernel⟩
theorem x_yL_isBalanced : wLS yL_isBalanced := wIn 708 (by decide +kernel) rfl
theorem k_RL_129 : wLk RL 129 yL_isBalanced := wIn 707 (by decide +kernel) rfl
theorem b_yL_areInOrder : wLB yL_areInOrder cL_areInOrder 8 (some .boolean) 1 := ⟨wIn 14 (by decide +kernel) rfl, wIn 712 (by decide +kernel) rfl, by decide +kernel, by decide +kernel, rfl, by decide, by decide +kernel⟩
theorem x_yL_areInOrder : wLS yL_areInOrder := wIn 711 (by decide +kernel) rfl
theorem k_RL_133 : wLk RL 133 yL_areInOrder := wIn 710 (by decide +kernel) rfl
theorem k_RJ7_304 : Cond.methodLink RJ7 304 Lib.Math.min.name ∈ wAll := wIn 509 (by decide +kernel) rfl
theorem b_yX4_init : wLB yX4_init cX4_init 1 (none) 0 := ⟨wIn 21 (by decide +kernel) rfl, wIn 277 (by decide +kernel) rfl, by decide +kernel, by decide +kernel, rfl, by decide, by decide +kernel⟩
theorem x_yX4_init : wLI yX4_init := ⟨rfl, wIn 276 (by decide +kernel) rfl⟩
theorem k_RX6_32 : wLN RX6 32 yX4_init := ⟨"StandingPayments", by simp [wNM, RX6]⟩
theorem k_RX1_46 : wLN RX1 46 yX6_isBetween := ⟨"StandingPayments", by simp [wNM, RX1]⟩
theorem b_yX1_init : wLB yX1_init cX1_init 1 (none) 0 := ⟨wIn 17 (by decide +kernel) rfl, wIn 43 (by decide +kernel) rfl, by decide +kernel, by decide +kernel, rfl, by decide, by decide +kernel⟩
theorem x_yX1_init : wLI yX1_init := ⟨rfl, wIn 42 (by decide +kernel) rfl⟩
theorem k_RX2_11 : wLN RX2 11 yX1_init := ⟨"StandingPayments", by simp [wNM, RX2]⟩
theorem b_yX5_init : wLB yX5_init cX5_init 1 (none) 0 := ⟨wIn 18 (by decide +kernel) rfl, wIn 66 (by decide +kernel) rfl, by decide +kernel, by decide +kernel, rfl, by decide, by decide +kernel⟩
theorem x_yX5_init : wLI yX5_init := ⟨rfl, wIn 65 (by decide +kernel) rfl⟩
theorem k_RX2_32 : wLN RX2 32 yX5_init := ⟨"StandingPayments", by simp [wNM, RX2]⟩
theorem b_yX0_init : wLB yX0_init cX0_init 1 (none) 0 := ⟨wIn 19 (by decide +kernel) rfl, wIn 88 (by decide +kernel) rfl, by decide +kernel, by decide +kernel, rfl, by decide, by decide +kernel⟩
theorem x_yX0_init : wLI yX0_init := ⟨rfl, wIn 87 (by decide +kernel) rfl⟩
theorem k_RX2_47 : wLN RX2 47 yX0_init := ⟨"StandingPayments", by simp [wNM, RX2]⟩
theorem b_yX3_init : wLB yX3_init cX3_init 1 (none) 0 := ⟨wIn 20 (by decide +kernel) rfl, wIn 147 (by decide +kernel) rfl, by decide +kernel, by decide +kernel, rfl, by decide, by decide +kernel⟩
theorem x_yX3_init : wLI yX3_init := ⟨rfl, wIn 146 (by decide +kernel) rfl⟩
theorem k_RX2_48 : wLN RX2 48 yX3_init := ⟨"StandingPayments", by simp [wNM, RX2]⟩
theorem k_RX2_77 : wLN RX2 77 yX6_isBetween := ⟨"StandingPayments", by simp [wNM, RX2]⟩
theorem c_RX6_104 : Cond.constantLong RX6 104 (jL (-1)) ∈ wAll := wIn 368 (by decide +kernel) rfl
theorem c_RX6_165 : Cond.constantLong RX6 165 (jL (-2)) ∈ wAll := wIn 738 (by decide +kernel) rfl
theorem c_RX6_175 : Cond.constant RX6 175 (iI (100000)) ∈ wAll := wIn 747 (by decide +kernel) rfl
theorem c_RX6_244 : Cond.constantLong RX6 244 (jL (1023)) ∈ wAll := wIn 381 (by decide +kernel) rfl
theorem c_RX6_246 : Cond.constantDouble RX6 246 (4611686018427387904) ∈ wAll := wIn 382 (by decide +kernel) rfl
theorem c_RX6_248 : Cond.constantDouble RX6 248 (4841369599423283200) ∈ wAll := wIn 383 (by decide +kernel) rfl
theorem c_RX0_53 : Cond.constantLong RX0 53 (jL (-2)) ∈ wAll := wIn 373 (by decide +kernel) rfl
theorem c_RX2_92 : Cond.constant RX2 92 (iI (1000000)) ∈ wAll := wIn 550 (by decide +kernel) rfl
theorem c_RX2_104 : Cond.constant RX2 104 (iI (100000000)) ∈ wAll := wIn 573 (by decide +kernel) rfl
theorem c_RX2_123 : Cond.constant RX2 123 (iI (39999)) ∈ wAll := wIn 589 (by decide +kernel) rfl
theorem c_RX2_269 : Cond.constantFloat RX2 269 (1148846080) ∈ wAll := wIn 696 (by decide +kernel) rfl
theorem c_RX2_280 : Cond.constantDouble RX2 280 (4645128764097822720) ∈ wAll := wIn 699 (by decide +kernel) rfl
theorem c_RL_7 : Cond.constant RL 7 (iI (763049417)) ∈ wAll := wIn 354 (by decide +kernel) rfl
theorem c_RL_8 : Cond.constant RL 8 (iI (2147483647)) ∈ wAll := wIn 459 (by decide +kernel) rfl
theorem c_RL_9 : Cond.constantLong RL 9 (jL (7)) ∈ wAll := wIn 358 (by decide +kernel) rfl
theorem c_RL_11 : Cond.constantLong RL 11 (jL (31)) ∈ wAll := wIn 359 (by decide +kernel) rfl
theorem c_RL_42 : Cond.constant RL 42 (iI (60000)) ∈ wAll := wIn 577 (by decide +kernel) rfl
theorem c_RL_69 : Cond.constant RL 69 (iI (50000)) ∈ wAll := wIn 541 (by decide +kernel) rfl
theorem c_RL_73 : Cond.constant RL 73 (iI (90000)) ∈ wAll := wIn 564 (by decide +kernel) rfl
theorem l_RX6_9 : Cond.classLink RX6 9 "StandingPayments$House" ∈ wAll := wIn 33 (by decide +kernel) rfl
abbrev fs0_2 : List Value := [.null, .null, .null, .null, .int (iI 0), .int (iI 0), .int (iI 0), .int (iI 0), .int (iI 0), .int (iI 0), .int (iI 0), .int (iI 0)]
theorem w_RX6_9 : wNew RX6 9 2 12 fs0_2 := ⟨RX2, TX2, tyX2, rfl, wIn 33 (by decide +kernel) rfl, wIn 34 (by decide +kernel) rfl, wIn 16 (by decide +kernel) rfl, inW2, tyX2_ok, fun j hj => by rcases (show j = 0 ∨ j = 1 ∨ j = 2 ∨ j = 3 ∨ j = 4 ∨ j = 5 ∨ j = 6 ∨ j = 7 ∨ j = 8 ∨ j = 9 ∨ j = 10 ∨ j = 11 by omega) with rfl | rfl | rfl | rfl | rfl | rfl | rfl | rfl | rfl | rfl | rfl | rfl <;> rfl⟩
theorem l_RX6_30 : Cond.classLink RX6 30 "StandingPayments$Pad" ∈ wAll := wIn 273 (by decide +kernel) rfl
abbrev fs0_4 : List Value := [.null, .int (iI 0), .int (iI 0), .int (iI 0), .int (iI 0), .int (iI 0), .int (iI 0), .int (iI 0), .int (iI 0), .int (iI 0), .int (iI 0)]
theorem w_RX6_30 : wNew RX6 30 4 11 fs0_4 := ⟨RX4, TX4, tyX4, rfl, wIn 273 (by decide +kernel) rfl, wIn 274 (by decide +kernel) rfl, wIn 21 (by decide +kernel) rfl, inW4, tyX4_ok, fun j hj => by rcases (show j = 0 ∨ j = 1 ∨ j = 2 ∨ j = 3 ∨ j = 4 ∨ j = 5 ∨ j = 6 ∨ j = 7 ∨ j = 8 ∨ j = 9 ∨ j = 10 by omega) with rfl | rfl | rfl | rfl | rfl | rfl | rfl | rfl | rfl | rfl | rfl <;> rfl⟩
theorem l_RX2_9 : Cond.classLink RX2 9 "StandingPayments$Calendar" ∈ wAll := wIn 39 (by decide +kernel) rfl
abbrev fs0_1 : List Value := [.null, .int (iI 0), .int (iI 0)]
theorem w_RX2_9 : wNew RX2 9 1 3 fs0_1 := ⟨RX1, TX1, tyX1, rfl, wIn 39 (by decide +kernel) rfl, wIn 40 (by decide +kernel) rfl, wIn 17 (by decide +kernel) rfl, inW1, tyX1_ok, fun j hj => by rcases (show j = 0 ∨ j = 1 ∨ j = 2 by omega) with rfl | rfl | rfl <;> rfl⟩
theorem l_RX2_18 : Cond.classLink RX2 18 "StandingPayments$Account" ∈ wAll := wIn 58 (by decide +kernel) rfl
abbrev fs0_0 : List Value := [.int (iI 0), .int (iI 0), .int (iI 0), .long (jL 0), .long (jL 0), .long (jL 0), .long (jL 0), .long (jL 0), .long (jL 0), .long (jL 0), .long (jL 0), .long (jL 0), .double 0]
theorem w_RX2_18 : wNew RX2 18 0 13 fs0_0 := ⟨RX0, TX0, tyX0, rfl, wIn 58 (by decide +kernel) rfl, wIn 85 (by decide +kernel) rfl, wIn 19 (by decide +kernel) rfl, inW0, tyX0_ok, fun j hj => by rcases (show j = 0 ∨ j = 1 ∨ j = 2 ∨ j = 3 ∨ j = 4 ∨ j = 5 ∨ j = 6 ∨ j = 7 ∨ j = 8 ∨ j = 9 ∨ j = 10 ∨ j = 11 ∨ j = 12 by omega) with rfl | rfl | rfl | rfl | rfl | rfl | rfl | rfl | rfl | rfl | rfl | rfl | rfl <;> rfl⟩
theorem l_RX2_24 : Cond.classLink RX2 24 "StandingPayments$Order" ∈ wAll := wIn 60 (by decide +kernel) rfl
abbrev fs0_3 : List Value := [.int (iI 0), .int (iI 0), .int (iI 0), .int (iI 0), .int (iI 0), .int (iI 0), .int (iI 0), .int (iI 0), .int (iI 0), .int (iI 0), .int (iI 0), .int (iI 0), .int (iI 0), .int (iI 0), .int (iI 0), .int (iI 0), .int (iI 0), .int (iI 0), .int (iI 0), .int (iI 0)]
theorem w_RX2_24 : wNew RX2 24 3 20 fs0_3 := ⟨RX3, TX3, tyX3, rfl, wIn 60 (by decide +kernel) rfl, wIn 144 (by decide +kernel) rfl, wIn 20 (by decide +kernel) rfl, inW3, tyX3_ok, fun j hj => by rcases (show j = 0 ∨ j = 1 ∨ j = 2 ∨ j = 3 ∨ j = 4 ∨ j = 5 ∨ j = 6 ∨ j = 7 ∨ j = 8 ∨ j = 9 ∨ j = 10 ∨ j = 11 ∨ j = 12 ∨ j = 13 ∨ j = 14 ∨ j = 15 ∨ j = 16 ∨ j = 17 ∨ j = 18 ∨ j = 19 by omega) with rfl | rfl | rfl | rfl | rfl | rfl | rfl | rfl | rfl | rfl | rfl | rfl | rfl | rfl | rfl | rfl | rfl | rfl | rfl | rfl <;> rfl⟩
theorem l_RX2_30 : Cond.classLink RX2 30 "StandingPayments$Waiting" ∈ wAll := wIn 62 (by decide +kernel) rfl
abbrev fs0_5 : List Value := [.null, .int (iI 0), .int (iI 0)]
theorem w_RX2_30 : wNew RX2 30 5 3 fs0_5 := ⟨RX5, TX5, tyX5, rfl, wIn 62 (by decide +kernel) rfl, wIn 63 (by decide +kernel) rfl, wIn 18 (by decide +kernel) rfl, inW5, tyX5_ok, fun j hj => by rcases (show j = 0 ∨ j = 1 ∨ j = 2 by omega) with rfl | rfl | rfl <;> rfl⟩
theorem l_RX5_11 : Cond.classLink RX5 11 "[[I" ∈ wAll := wIn 68 (by decide +kernel) rfl
theorem l_RL_14 : Cond.classLink RL 14 "StandingPayments" ∈ wAll := wIn 25 (by decide +kernel) rfl
abbrev fs0_6 : List Value := [.null, .null, .null, .int (iI 0), .int (iI 0), .null, .null, .null]
theorem w_RL_14 : wNew RL 14 6 8 fs0_6 := ⟨RX6, TX6, tyX6, rfl, wIn 25 (by decide +kernel) rfl, wIn 26 (by decide +kernel) rfl, wIn 15 (by decide +kernel) rfl, inW6, tyX6_ok, fun j hj => by rcases (show j = 0 ∨ j = 1 ∨ j = 2 ∨ j = 3 ∨ j = 4 ∨ j = 5 ∨ j = 6 ∨ j = 7 by omega) with rfl | rfl | rfl | rfl | rfl | rfl | rfl | rfl <;> rfl⟩
theorem l_RJ7_317 : Cond.classLink RJ7 317 "[I" ∈ wAll := wIn 508 (by decide +kernel) rfl
theorem ac_long : Cond.arrayClass .long ∈ wAll := wIn 57 (by decide +kernel) rfl
theorem ac_int : Cond.arrayClass .int ∈ wAll := wIn 84 (by decide +kernel) rfl
theorem ac_boolean : Cond.arrayClass .boolean ∈ wAll := wIn 304 (by decide +kernel) rfl
theorem ac_char : Cond.arrayClass .char ∈ wAll := wIn 305 (by decide +kernel) rfl
theorem cp_nat : Cond.native arraycopyName ∈ wAll := wIn 482 (by decide +kernel) rfl
theorem cp_sta : Cond.static arraycopyName ∈ wAll := wIn 481 (by decide +kernel) rfl
theorem cp_ini : Cond.initialized "java/lang/System" ∈ wAll := wIn 23 (by decide +kernel) rfl
theorem k_RX6_3 : Cond.methodLink RX6 3 objectInit ∈ wAll := wIn 30 (by decide +kernel) rfl
theorem k_RX0_3 : Cond.methodLink RX0 3 objectInit ∈ wAll := wIn 89 (by decide +kernel) rfl
theorem k_RX1_3 : Cond.methodLink RX1 3 objectInit ∈ wAll := wIn 44 (by decide +kernel) rfl
theorem k_RX1_15 : Cond.methodLink RX1 15 arraycopyName ∈ wAll := wIn 480 (by decide +kernel) rfl
theorem k_RX2_3 : Cond.methodLink RX2 3 objectInit ∈ wAll := wIn 38 (by decide +kernel) rfl
theorem k_RX3_3 : Cond.methodLink RX3 3 objectInit ∈ wAll := wIn 148 (by decide +kernel) rfl
theorem k_RX4_3 : Cond.methodLink RX4 3 objectInit ∈ wAll := wIn 278 (by decide +kernel) rfl
theorem k_RX5_3 : Cond.methodLink RX5 3 objectInit ∈ wAll := wIn 67 (by decide +kernel) rfl
theorem k_RX5_27 : Cond.methodLink RX5 27 arraycopyName ∈ wAll := wIn 511 (by decide +kernel) rfl
theorem k_RJ7_150 : Cond.methodLink RJ7 150 arraycopyName ∈ wAll := wIn 510 (by decide +kernel) rfl
theorem ob_i : Cond.instanceMethod objectInit ∈ wAll := wIn 31 (by decide +kernel) rfl
theorem ob_c : Cond.code objectInit ⟨#[0xb1]⟩ 1 none ∈ wAll := wIn 32 (by decide +kernel) rfl
theorem mt_min_s : Cond.static Lib.Math.min.name ∈ wAll := wIn 416 (by decide +kernel) rfl
theorem mt_min_c : Cond.code Lib.Math.min.name Lib.Math.min.code 2 (some .int) ∈ wAll := wIn 417 (by decide +kernel) rfl
theorem mt_minL_s : Cond.static Lib.MathLoose.min_long.x ∈ wAll := wIn 674 (by decide +kernel) rfl
theorem mt_minL_c : Cond.code Lib.MathLoose.min_long.x Lib.MathLoose.min_long.code 4 (some .long) ∈ wAll := wIn 675 (by decide +kernel) rfl
theorem mt_i : Cond.initialized "java/lang/Math" ∈ wAll := wIn 22 (by decide +kernel) rfl
theorem g_RX1_28 : Cond.fieldLink RX1 28 "StandingPayments$Calendar" "MONTH_STARTS" "[I" ∈ wAll := wIn 407 (by decide +kernel) rfl
