/-! -/
theorem inT1 {w : Cond} (j : Nat) (h0 : tables_1_1[j]? = some w) (g : goodWord w = true) : w ∈ WALL := by
  have h : w ∈ tables_1_1 := List.mem_of_getElem? h0
  have h2 : w ∈ tables_1 := List.mem_append_left _ h
  exact List.mem_filter.mpr ⟨List.mem_append_right _ h2, g⟩
theorem inT2 {w : Cond} (j : Nat) (h0 : tables_1_2[j]? = some w) (g : goodWord w = true) : w ∈ WALL := by
  have h : w ∈ tables_1_2 := List.mem_of_getElem? h0
  have h2 : w ∈ tables_1 := List.mem_append_right _ ((List.mem_append_left _ h))
  exact List.mem_filter.mpr ⟨List.mem_append_right _ h2, g⟩
theorem inT3 {w : Cond} (j : Nat) (h0 : tables_1_3[j]? = some w) (g : goodWord w = true) : w ∈ WALL := by
  have h : w ∈ tables_1_3 := List.mem_of_getElem? h0
  have h2 : w ∈ tables_1 := List.mem_append_right _ (List.mem_append_right _ ((List.mem_append_left _ h)))
  exact List.mem_filter.mpr ⟨List.mem_append_right _ h2, g⟩
theorem inT4 {w : Cond} (j : Nat) (h0 : tables_1_4[j]? = some w) (g : goodWord w = true) : w ∈ WALL := by
  have h : w ∈ tables_1_4 := List.mem_of_getElem? h0
  have h2 : w ∈ tables_1 := List.mem_append_right _ (List.mem_append_right _ (List.mem_append_right _ ((List.mem_append_left _ h))))
  exact List.mem_filter.mpr ⟨List.mem_append_right _ h2, g⟩
theorem inT5 {w : Cond} (j : Nat) (h0 : tables_1_5[j]? = some w) (g : goodWord w = true) : w ∈ WALL := by
  have h : w ∈ tables_1_5 := List.mem_of_getElem? h0
  have h2 : w ∈ tables_1 := List.mem_append_right _ (List.mem_append_right _ (List.mem_append_right _ (List.mem_append_right _ ((List.mem_append_left _ h)))))
  exact List.mem_filter.mpr ⟨List.mem_append_right _ h2, g⟩
theorem inT6 {w : Cond} (j : Nat) (h0 : tables_1_6[j]? = some w) (g : goodWord w = true) : w ∈ WALL := by
  have h : w ∈ tables_1_6 := List.mem_of_getElem? h0
  have h2 : w ∈ tables_1 := List.mem_append_right _ (List.mem_append_right _ (List.mem_append_right _ (List.mem_append_right _ (List.mem_append_right _ ((List.mem_append_left _ h))))))
  exact List.mem_filter.mpr ⟨List.mem_append_right _ h2, g⟩
theorem inT7 {w : Cond} (j : Nat) (h0 : tables_1_7[j]? = some w) (g : goodWord w = true) : w ∈ WALL := by
  have h : w ∈ tables_1_7 := List.mem_of_getElem? h0
  have h2 : w ∈ tables_1 := List.mem_append_right _ (List.mem_append_right _ (List.mem_append_right _ (List.mem_append_right _ (List.mem_append_right _ (List.mem_append_right _ ((List.mem_append_left _ h)))))))
  exact List.mem_filter.mpr ⟨List.mem_append_right _ h2, g⟩
theorem inT8 {w : Cond} (j : Nat) (h0 : tables_1_8[j]? = some w) (g : goodWord w = true) : w ∈ WALL := by
  have h : w ∈ tables_1_8 := List.mem_of_getElem? h0
  have h2 : w ∈ tables_1 := List.mem_append_right _ (List.mem_append_right _ (List.mem_append_right _ (List.mem_append_right _ (List.mem_append_right _ (List.mem_append_right _ (List.mem_append_right _ ((List.mem_append_left _ h))))))))
  exact List.mem_filter.mpr ⟨List.mem_append_right _ h2, g⟩
theorem inT9 {w : Cond} (j : Nat) (h0 : tables_1_9[j]? = some w) (g : goodWord w = true) : w ∈ WALL := by
  have h : w ∈ tables_1_9 := List.mem_of_getElem? h0
  have h2 : w ∈ tables_1 := List.mem_append_right _ (List.mem_append_right _ (List.mem_append_right _ (List.mem_append_right _ (List.mem_append_right _ (List.mem_append_right _ (List.mem_append_right _ (List.mem_append_right _ h)))))))
  exact List.mem_filter.mpr ⟨List.mem_append_right _ h2, g⟩
/-! METHODS, WHAT A CALL NEEDS TO KNOW OF THEM, LINKS (printed by wip/whole/tools/cal.py) -/
abbrev mX10_init : MI := (yX10_init, cX10_init, 1, none)
theorem kalX10_init : CalI mX10_init 0 := ⟨⟨inT1 (w := Cond.code yX10_init cX10_init 1 none) 32 (rfl) (rfl), inT1 (w := Cond.initialized "EngineMonastery") 1 (rfl) (rfl), by decide, by decide +kernel, by decide +kernel, by decide +kernel⟩, rfl, inT1 (w := Cond.instanceMethod yX10_init) 31 (rfl) (rfl), rfl⟩
abbrev mX3_init : MI := (yX3_init, cX3_init, 2, none)
theorem kalX3_init : CalI mX3_init 0 := ⟨⟨inT1 (w := Cond.code yX3_init cX3_init 2 none) 40 (rfl) (rfl), inT1 (w := Cond.initialized "EngineMonastery$House") 2 (rfl) (rfl), by decide, by decide +kernel, by decide +kernel, by decide +kernel⟩, rfl, inT1 (w := Cond.instanceMethod yX3_init) 39 (rfl) (rfl), rfl⟩
abbrev mX8_init : MI := (yX8_init, cX8_init, 1, none)
theorem kalX8_init : CalI mX8_init 0 := ⟨⟨inT1 (w := Cond.code yX8_init cX8_init 1 none) 48 (rfl) (rfl), inT1 (w := Cond.initialized "EngineMonastery$Repairs") 3 (rfl) (rfl), by decide, by decide +kernel, by decide +kernel, by decide +kernel⟩, rfl, inT1 (w := Cond.instanceMethod yX8_init) 47 (rfl) (rfl), rfl⟩
abbrev mX4_init : MI := (yX4_init, cX4_init, 1, none)
theorem kalX4_init : CalI mX4_init 0 := ⟨⟨inT1 (w := Cond.code yX4_init cX4_init 1 none) 75 (rfl) (rfl), inT1 (w := Cond.initialized "EngineMonastery$KnockBook") 4 (rfl) (rfl), by decide, by decide +kernel, by decide +kernel, by decide +kernel⟩, rfl, inT1 (w := Cond.instanceMethod yX4_init) 74 (rfl) (rfl), rfl⟩
abbrev mX1_init : MI := (yX1_init, cX1_init, 1, none)
theorem kalX1_init : CalI mX1_init 0 := ⟨⟨inT1 (w := Cond.code yX1_init cX1_init 1 none) 93 (rfl) (rfl), inT1 (w := Cond.initialized "EngineMonastery$Engine") 5 (rfl) (rfl), by decide, by decide +kernel, by decide +kernel, by decide +kernel⟩, rfl, inT1 (w := Cond.instanceMethod yX1_init) 92 (rfl) (rfl), rfl⟩
abbrev mX6_init : MI := (yX6_init, cX6_init, 2, none)
theorem kalX6_init : CalI mX6_init 0 := ⟨⟨inT1 (w := Cond.code yX6_init cX6_init 2 none) 185 (rfl) (rfl), inT1 (w := Cond.initialized "EngineMonastery$Past") 6 (rfl) (rfl), by decide, by decide +kernel, by decide +kernel, by decide +kernel⟩, rfl, inT1 (w := Cond.instanceMethod yX6_init) 184 (rfl) (rfl), rfl⟩
abbrev mX2_init : MI := (yX2_init, cX2_init, 1, none)
theorem kalX2_init : CalI mX2_init 0 := ⟨⟨inT1 (w := Cond.code yX2_init cX2_init 1 none) 205 (rfl) (rfl), inT1 (w := Cond.initialized "EngineMonastery$EvenOrders") 7 (rfl) (rfl), by decide, by decide +kernel, by decide +kernel, by decide +kernel⟩, rfl, inT1 (w := Cond.instanceMethod yX2_init) 204 (rfl) (rfl), rfl⟩
abbrev mX9_init : MI := (yX9_init, cX9_init, 1, none)
theorem kalX9_init : CalI mX9_init 0 := ⟨⟨inT1 (w := Cond.code yX9_init cX9_init 1 none) 218 (rfl) (rfl), inT1 (w := Cond.initialized "EngineMonastery$Rota") 8 (rfl) (rfl), by decide, by decide +kernel, by decide +kernel, by decide +kernel⟩, rfl, inT1 (w := Cond.instanceMethod yX9_init) 217 (rfl) (rfl), rfl⟩
abbrev mX7_init : MI := (yX7_init, cX7_init, 1, none)
theorem kalX7_init : CalI mX7_init 0 := ⟨⟨inT1 (w := Cond.code yX7_init cX7_init 1 none) 238 (rfl) (rfl), inT1 (w := Cond.initialized "EngineMonastery$Penances") 9 (rfl) (rfl), by decide, by decide +kernel, by decide +kernel, by decide +kernel⟩, rfl, inT1 (w := Cond.instanceMethod yX7_init) 237 (rfl) (rfl), rfl⟩
abbrev mX0_init : MI := (yX0_init, cX0_init, 1, none)
theorem kalX0_init : CalI mX0_init 0 := ⟨⟨inT2 (w := Cond.code yX0_init cX0_init 1 none) 11 (rfl) (rfl), inT1 (w := Cond.initialized "EngineMonastery$CommandText") 10 (rfl) (rfl), by decide, by decide +kernel, by decide +kernel, by decide +kernel⟩, rfl, inT2 (w := Cond.instanceMethod yX0_init) 10 (rfl) (rfl), rfl⟩
abbrev mX5_init : MI := (yX5_init, cX5_init, 1, none)
theorem kalX5_init : CalI mX5_init 0 := ⟨⟨inT2 (w := Cond.code yX5_init cX5_init 1 none) 39 (rfl) (rfl), inT1 (w := Cond.initialized "EngineMonastery$Line") 11 (rfl) (rfl), by decide, by decide +kernel, by decide +kernel, by decide +kernel⟩, rfl, inT2 (w := Cond.instanceMethod yX5_init) 38 (rfl) (rfl), rfl⟩
abbrev mX10_engineCount : MI := (yX10_engineCount, cX10_engineCount, 1, (some .int))
theorem kalX10_engineCount : CalV mX10_engineCount 0 := ⟨⟨inT2 (w := Cond.code yX10_engineCount cX10_engineCount 1 (some .int)) 93 (rfl) (rfl), inT1 (w := Cond.initialized "EngineMonastery") 1 (rfl) (rfl), by decide, by decide +kernel, by decide +kernel, by decide +kernel⟩, inT2 (w := Cond.instanceMethod yX10_engineCount) 91 (rfl) (rfl), inT2 (w := Cond.selects "EngineMonastery" yX10_engineCount yX10_engineCount) 92 (rfl) (rfl)⟩
abbrev mX10_allOil : MI := (yX10_allOil, cX10_allOil, 1, (some .int))
theorem kalX10_allOil : CalV mX10_allOil 0 := ⟨⟨inT2 (w := Cond.code yX10_allOil cX10_allOil 1 (some .int)) 97 (rfl) (rfl), inT1 (w := Cond.initialized "EngineMonastery") 1 (rfl) (rfl), by decide, by decide +kernel, by decide +kernel, by decide +kernel⟩, inT2 (w := Cond.instanceMethod yX10_allOil) 95 (rfl) (rfl), inT2 (w := Cond.selects "EngineMonastery" yX10_allOil yX10_allOil) 96 (rfl) (rfl)⟩
abbrev mX3_oilInCylinders : MI := (yX3_oilInCylinders, cX3_oilInCylinders, 3, (some .int))
theorem kalX3_oilInCylinders : CalV mX3_oilInCylinders 0 := ⟨⟨inT2 (w := Cond.code yX3_oilInCylinders cX3_oilInCylinders 3 (some .int)) 101 (rfl) (rfl), inT1 (w := Cond.initialized "EngineMonastery$House") 2 (rfl) (rfl), by decide, by decide +kernel, by decide +kernel, by decide +kernel⟩, inT2 (w := Cond.instanceMethod yX3_oilInCylinders) 99 (rfl) (rfl), inT2 (w := Cond.selects "EngineMonastery$House" yX3_oilInCylinders yX3_oilInCylinders) 100 (rfl) (rfl)⟩
abbrev mX1_sumOf : MI := (yX1_sumOf, cX1_sumOf, 4, (some .int))
theorem kalX1_sumOf : CalV mX1_sumOf 1 := ⟨⟨inT2 (w := Cond.code yX1_sumOf cX1_sumOf 4 (some .int)) 105 (rfl) (rfl), inT1 (w := Cond.initialized "EngineMonastery$Engine") 5 (rfl) (rfl), by decide, by decide +kernel, by decide +kernel, by decide +kernel⟩, inT2 (w := Cond.instanceMethod yX1_sumOf) 103 (rfl) (rfl), inT2 (w := Cond.selects "EngineMonastery$Engine" yX1_sumOf yX1_sumOf) 104 (rfl) (rfl)⟩
abbrev mX10_allOilByAccounts : MI := (yX10_allOilByAccounts, cX10_allOilByAccounts, 1, (some .int))
theorem kalX10_allOilByAccounts : CalV mX10_allOilByAccounts 0 := ⟨⟨inT2 (w := Cond.code yX10_allOilByAccounts cX10_allOilByAccounts 1 (some .int)) 109 (rfl) (rfl), inT1 (w := Cond.initialized "EngineMonastery") 1 (rfl) (rfl), by decide, by decide +kernel, by decide +kernel, by decide +kernel⟩, inT2 (w := Cond.instanceMethod yX10_allOilByAccounts) 107 (rfl) (rfl), inT2 (w := Cond.selects "EngineMonastery" yX10_allOilByAccounts yX10_allOilByAccounts) 108 (rfl) (rfl)⟩
abbrev mX10_mostVigils : MI := (yX10_mostVigils, cX10_mostVigils, 1, (some .int))
theorem kalX10_mostVigils : CalV mX10_mostVigils 0 := ⟨⟨inT2 (w := Cond.code yX10_mostVigils cX10_mostVigils 1 (some .int)) 113 (rfl) (rfl), inT1 (w := Cond.initialized "EngineMonastery") 1 (rfl) (rfl), by decide, by decide +kernel, by decide +kernel, by decide +kernel⟩, inT2 (w := Cond.instanceMethod yX10_mostVigils) 111 (rfl) (rfl), inT2 (w := Cond.selects "EngineMonastery" yX10_mostVigils yX10_mostVigils) 112 (rfl) (rfl)⟩
abbrev mX9_mostByChains : MI := (yX9_mostByChains, cX9_mostByChains, 5, (some .int))
theorem kalX9_mostByChains : CalV mX9_mostByChains 1 := ⟨⟨inT2 (w := Cond.code yX9_mostByChains cX9_mostByChains 5 (some .int)) 117 (rfl) (rfl), inT1 (w := Cond.initialized "EngineMonastery$Rota") 8 (rfl) (rfl), by decide, by decide +kernel, by decide +kernel, by decide +kernel⟩, inT2 (w := Cond.instanceMethod yX9_mostByChains) 115 (rfl) (rfl), inT2 (w := Cond.selects "EngineMonastery$Rota" yX9_mostByChains yX9_mostByChains) 116 (rfl) (rfl)⟩
abbrev mX9_findKeeper : MI := (yX9_findKeeper, cX9_findKeeper, 6, (some .boolean))
theorem kalX9_findKeeper : CalS mX9_findKeeper 5 := ⟨⟨inT2 (w := Cond.code yX9_findKeeper cX9_findKeeper 6 (some .boolean)) 120 (rfl) (rfl), inT1 (w := Cond.initialized "EngineMonastery$Rota") 8 (rfl) (rfl), by decide, by decide +kernel, by decide +kernel, by decide +kernel⟩, inT2 (w := Cond.static yX9_findKeeper) 119 (rfl) (rfl)⟩
abbrev mX9_canKeep : MI := (yX9_canKeep, cX9_canKeep, 3, (some .boolean))
theorem kalX9_canKeep : CalS mX9_canKeep 3 := ⟨⟨inT2 (w := Cond.code yX9_canKeep cX9_canKeep 3 (some .boolean)) 123 (rfl) (rfl), inT1 (w := Cond.initialized "EngineMonastery$Rota") 8 (rfl) (rfl), by decide, by decide +kernel, by decide +kernel, by decide +kernel⟩, inT2 (w := Cond.static yX9_canKeep) 122 (rfl) (rfl)⟩
abbrev mX10_mostVigilsByTable : MI := (yX10_mostVigilsByTable, cX10_mostVigilsByTable, 1, (some .int))
theorem kalX10_mostVigilsByTable : CalV mX10_mostVigilsByTable 0 := ⟨⟨inT2 (w := Cond.code yX10_mostVigilsByTable cX10_mostVigilsByTable 1 (some .int)) 127 (rfl) (rfl), inT1 (w := Cond.initialized "EngineMonastery") 1 (rfl) (rfl), by decide, by decide +kernel, by decide +kernel, by decide +kernel⟩, inT2 (w := Cond.instanceMethod yX10_mostVigilsByTable) 125 (rfl) (rfl), inT2 (w := Cond.selects "EngineMonastery" yX10_mostVigilsByTable yX10_mostVigilsByTable) 126 (rfl) (rfl)⟩
abbrev mX9_mostByTable : MI := (yX9_mostByTable, cX9_mostByTable, 4, (some .int))
theorem kalX9_mostByTable : CalV mX9_mostByTable 1 := ⟨⟨inT2 (w := Cond.code yX9_mostByTable cX9_mostByTable 4 (some .int)) 131 (rfl) (rfl), inT1 (w := Cond.initialized "EngineMonastery$Rota") 8 (rfl) (rfl), by decide, by decide +kernel, by decide +kernel, by decide +kernel⟩, inT2 (w := Cond.instanceMethod yX9_mostByTable) 129 (rfl) (rfl), inT2 (w := Cond.selects "EngineMonastery$Rota" yX9_mostByTable yX9_mostByTable) 130 (rfl) (rfl)⟩
abbrev mX9_mostFrom : MI := (yX9_mostFrom, cX9_mostFrom, 7, (some .int))
theorem kalX9_mostFrom : CalV mX9_mostFrom 3 := ⟨⟨inT2 (w := Cond.code yX9_mostFrom cX9_mostFrom 7 (some .int)) 135 (rfl) (rfl), inT1 (w := Cond.initialized "EngineMonastery$Rota") 8 (rfl) (rfl), by decide, by decide +kernel, by decide +kernel, by decide +kernel⟩, inT2 (w := Cond.instanceMethod yX9_mostFrom) 134 (rfl) (rfl), inWALL (w := Cond.selects "EngineMonastery$Rota" yX9_mostFrom yX9_mostFrom) 0 (by decide +kernel) (by decide +kernel)⟩
abbrev mX9_isFree : MI := (yX9_isFree, cX9_isFree, 2, (some .boolean))
theorem kalX9_isFree : CalS mX9_isFree 2 := ⟨⟨inT2 (w := Cond.code yX9_isFree cX9_isFree 2 (some .boolean)) 138 (rfl) (rfl), inT1 (w := Cond.initialized "EngineMonastery$Rota") 8 (rfl) (rfl), by decide, by decide +kernel, by decide +kernel, by decide +kernel⟩, inT2 (w := Cond.static yX9_isFree) 137 (rfl) (rfl)⟩
abbrev mX10_repairCount : MI := (yX10_repairCount, cX10_repairCount, 1, (some .int))
theorem kalX10_repairCount : CalV mX10_repairCount 0 := ⟨⟨inT2 (w := Cond.code yX10_repairCount cX10_repairCount 1 (some .int)) 145 (rfl) (rfl), inT1 (w := Cond.initialized "EngineMonastery") 1 (rfl) (rfl), by decide, by decide +kernel, by decide +kernel, by decide +kernel⟩, inT2 (w := Cond.instanceMethod yX10_repairCount) 143 (rfl) (rfl), inT2 (w := Cond.selects "EngineMonastery" yX10_repairCount yX10_repairCount) 144 (rfl) (rfl)⟩
abbrev mX10_leastPenance : MI := (yX10_leastPenance, cX10_leastPenance, 1, (some .int))
theorem kalX10_leastPenance : CalV mX10_leastPenance 0 := ⟨⟨inT2 (w := Cond.code yX10_leastPenance cX10_leastPenance 1 (some .int)) 149 (rfl) (rfl), inT1 (w := Cond.initialized "EngineMonastery") 1 (rfl) (rfl), by decide, by decide +kernel, by decide +kernel, by decide +kernel⟩, inT2 (w := Cond.instanceMethod yX10_leastPenance) 147 (rfl) (rfl), inT2 (w := Cond.selects "EngineMonastery" yX10_leastPenance yX10_leastPenance) 148 (rfl) (rfl)⟩
abbrev mX7_leastByQueue : MI := (yX7_leastByQueue, cX7_leastByQueue, 5, (some .int))
theorem kalX7_leastByQueue : CalV mX7_leastByQueue 1 := ⟨⟨inT2 (w := Cond.code yX7_leastByQueue cX7_leastByQueue 5 (some .int)) 153 (rfl) (rfl), inT1 (w := Cond.initialized "EngineMonastery$Penances") 9 (rfl) (rfl), by decide, by decide +kernel, by decide +kernel, by decide +kernel⟩, inT2 (w := Cond.instanceMethod yX7_leastByQueue) 151 (rfl) (rfl), inT2 (w := Cond.selects "EngineMonastery$Penances" yX7_leastByQueue yX7_leastByQueue) 152 (rfl) (rfl)⟩
abbrev mX7_queueUp : MI := (yX7_queueUp, cX7_queueUp, 4, none)
theorem kalX7_queueUp : CalV mX7_queueUp 2 := ⟨⟨inT2 (w := Cond.code yX7_queueUp cX7_queueUp 4 none) 157 (rfl) (rfl), inT1 (w := Cond.initialized "EngineMonastery$Penances") 9 (rfl) (rfl), by decide, by decide +kernel, by decide +kernel, by decide +kernel⟩, inT2 (w := Cond.instanceMethod yX7_queueUp) 156 (rfl) (rfl), inWALL (w := Cond.selects "EngineMonastery$Penances" yX7_queueUp yX7_queueUp) 1 (by decide +kernel) (by decide +kernel)⟩
abbrev mX8_isBefore : MI := (yX8_isBefore, cX8_isBefore, 5, (some .boolean))
theorem kalX8_isBefore : CalV mX8_isBefore 2 := ⟨⟨inT2 (w := Cond.code yX8_isBefore cX8_isBefore 5 (some .boolean)) 161 (rfl) (rfl), inT1 (w := Cond.initialized "EngineMonastery$Repairs") 3 (rfl) (rfl), by decide, by decide +kernel, by decide +kernel, by decide +kernel⟩, inT2 (w := Cond.instanceMethod yX8_isBefore) 159 (rfl) (rfl), inT2 (w := Cond.selects "EngineMonastery$Repairs" yX8_isBefore yX8_isBefore) 160 (rfl) (rfl)⟩
abbrev mX10_leastPenanceByTable : MI := (yX10_leastPenanceByTable, cX10_leastPenanceByTable, 1, (some .int))
theorem kalX10_leastPenanceByTable : CalV mX10_leastPenanceByTable 0 := ⟨⟨inT2 (w := Cond.code yX10_leastPenanceByTable cX10_leastPenanceByTable 1 (some .int)) 165 (rfl) (rfl), inT1 (w := Cond.initialized "EngineMonastery") 1 (rfl) (rfl), by decide, by decide +kernel, by decide +kernel, by decide +kernel⟩, inT2 (w := Cond.instanceMethod yX10_leastPenanceByTable) 163 (rfl) (rfl), inT2 (w := Cond.selects "EngineMonastery" yX10_leastPenanceByTable yX10_leastPenanceByTable) 164 (rfl) (rfl)⟩
abbrev mX7_leastBySets : MI := (yX7_leastBySets, cX7_leastBySets, 4, (some .int))
theorem kalX7_leastBySets : CalV mX7_leastBySets 1 := ⟨⟨inT2 (w := Cond.code yX7_leastBySets cX7_leastBySets 4 (some .int)) 169 (rfl) (rfl), inT1 (w := Cond.initialized "EngineMonastery$Penances") 9 (rfl) (rfl), by decide, by decide +kernel, by decide +kernel, by decide +kernel⟩, inT2 (w := Cond.instanceMethod yX7_leastBySets) 167 (rfl) (rfl), inT2 (w := Cond.selects "EngineMonastery$Penances" yX7_leastBySets yX7_leastBySets) 168 (rfl) (rfl)⟩
abbrev mX7_leastOfSet : MI := (yX7_leastOfSet, cX7_leastOfSet, 8, (some .int))
theorem kalX7_leastOfSet : CalV mX7_leastOfSet 2 := ⟨⟨inT2 (w := Cond.code yX7_leastOfSet cX7_leastOfSet 8 (some .int)) 173 (rfl) (rfl), inT1 (w := Cond.initialized "EngineMonastery$Penances") 9 (rfl) (rfl), by decide, by decide +kernel, by decide +kernel, by decide +kernel⟩, inT2 (w := Cond.instanceMethod yX7_leastOfSet) 172 (rfl) (rfl), inWALL (w := Cond.selects "EngineMonastery$Penances" yX7_leastOfSet yX7_leastOfSet) 2 (by decide +kernel) (by decide +kernel)⟩
abbrev mX7_hoursOf : MI := (yX7_hoursOf, cX7_hoursOf, 4, (some .int))
theorem kalX7_hoursOf : CalS mX7_hoursOf 2 := ⟨⟨inT2 (w := Cond.code yX7_hoursOf cX7_hoursOf 4 (some .int)) 176 (rfl) (rfl), inT1 (w := Cond.initialized "EngineMonastery$Penances") 9 (rfl) (rfl), by decide, by decide +kernel, by decide +kernel, by decide +kernel⟩, inT2 (w := Cond.static yX7_hoursOf) 175 (rfl) (rfl)⟩
abbrev mX10_penanceDone : MI := (yX10_penanceDone, cX10_penanceDone, 1, (some .int))
theorem kalX10_penanceDone : CalV mX10_penanceDone 0 := ⟨⟨inT2 (w := Cond.code yX10_penanceDone cX10_penanceDone 1 (some .int)) 183 (rfl) (rfl), inT1 (w := Cond.initialized "EngineMonastery") 1 (rfl) (rfl), by decide, by decide +kernel, by decide +kernel, by decide +kernel⟩, inT2 (w := Cond.instanceMethod yX10_penanceDone) 181 (rfl) (rfl), inT2 (w := Cond.selects "EngineMonastery" yX10_penanceDone yX10_penanceDone) 182 (rfl) (rfl)⟩
abbrev mX10_hour : MI := (yX10_hour, cX10_hour, 1, (some .int))
theorem kalX10_hour : CalV mX10_hour 0 := ⟨⟨inT2 (w := Cond.code yX10_hour cX10_hour 1 (some .int)) 187 (rfl) (rfl), inT1 (w := Cond.initialized "EngineMonastery") 1 (rfl) (rfl), by decide, by decide +kernel, by decide +kernel, by decide +kernel⟩, inT2 (w := Cond.instanceMethod yX10_hour) 185 (rfl) (rfl), inT2 (w := Cond.selects "EngineMonastery" yX10_hour yX10_hour) 186 (rfl) (rfl)⟩
abbrev mX10_describeRota : MI := (yX10_describeRota, cX10_describeRota, 2, (some .int))
theorem kalX10_describeRota : CalV mX10_describeRota 0 := ⟨⟨inT2 (w := Cond.code yX10_describeRota cX10_describeRota 2 (some .int)) 191 (rfl) (rfl), inT1 (w := Cond.initialized "EngineMonastery") 1 (rfl) (rfl), by decide, by decide +kernel, by decide +kernel, by decide +kernel⟩, inT2 (w := Cond.instanceMethod yX10_describeRota) 189 (rfl) (rfl), inT2 (w := Cond.selects "EngineMonastery" yX10_describeRota yX10_describeRota) 190 (rfl) (rfl)⟩
abbrev mX9_findBest : MI := (yX9_findBest, cX9_findBest, 5, none)
theorem kalX9_findBest : CalV mX9_findBest 1 := ⟨⟨inT2 (w := Cond.code yX9_findBest cX9_findBest 5 none) 195 (rfl) (rfl), inT1 (w := Cond.initialized "EngineMonastery$Rota") 8 (rfl) (rfl), by decide, by decide +kernel, by decide +kernel, by decide +kernel⟩, inT2 (w := Cond.instanceMethod yX9_findBest) 193 (rfl) (rfl), inT2 (w := Cond.selects "EngineMonastery$Rota" yX9_findBest yX9_findBest) 194 (rfl) (rfl)⟩
abbrev mX9_lowestKeeper : MI := (yX9_lowestKeeper, cX9_lowestKeeper, 6, (some .int))
theorem kalX9_lowestKeeper : CalV mX9_lowestKeeper 3 := ⟨⟨inT2 (w := Cond.code yX9_lowestKeeper cX9_lowestKeeper 6 (some .int)) 200 (rfl) (rfl), inT1 (w := Cond.initialized "EngineMonastery$Rota") 8 (rfl) (rfl), by decide, by decide +kernel, by decide +kernel, by decide +kernel⟩, inT2 (w := Cond.instanceMethod yX9_lowestKeeper) 199 (rfl) (rfl), inWALL (w := Cond.selects "EngineMonastery$Rota" yX9_lowestKeeper yX9_lowestKeeper) 3 (by decide +kernel) (by decide +kernel)⟩
abbrev mX5_empty : MI := (yX5_empty, cX5_empty, 1, none)
theorem kalX5_empty : CalV mX5_empty 0 := ⟨⟨inT2 (w := Cond.code yX5_empty cX5_empty 1 none) 204 (rfl) (rfl), inT1 (w := Cond.initialized "EngineMonastery$Line") 11 (rfl) (rfl), by decide, by decide +kernel, by decide +kernel, by decide +kernel⟩, inT2 (w := Cond.instanceMethod yX5_empty) 202 (rfl) (rfl), inT2 (w := Cond.selects "EngineMonastery$Line" yX5_empty yX5_empty) 203 (rfl) (rfl)⟩
abbrev mX5_write : MI := (yX5_write, cX5_write, 2, none)
theorem kalX5_write : CalV mX5_write 1 := ⟨⟨inT2 (w := Cond.code yX5_write cX5_write 2 none) 208 (rfl) (rfl), inT1 (w := Cond.initialized "EngineMonastery$Line") 11 (rfl) (rfl), by decide, by decide +kernel, by decide +kernel, by decide +kernel⟩, inT2 (w := Cond.instanceMethod yX5_write) 206 (rfl) (rfl), inT2 (w := Cond.selects "EngineMonastery$Line" yX5_write yX5_write) 207 (rfl) (rfl)⟩
abbrev mX5_writeDigit : MI := (yX5_writeDigit, cX5_writeDigit, 2, none)
theorem kalX5_writeDigit : CalV mX5_writeDigit 1 := ⟨⟨inT2 (w := Cond.code yX5_writeDigit cX5_writeDigit 2 none) 212 (rfl) (rfl), inT1 (w := Cond.initialized "EngineMonastery$Line") 11 (rfl) (rfl), by decide, by decide +kernel, by decide +kernel, by decide +kernel⟩, inT2 (w := Cond.instanceMethod yX5_writeDigit) 210 (rfl) (rfl), inT2 (w := Cond.selects "EngineMonastery$Line" yX5_writeDigit yX5_writeDigit) 211 (rfl) (rfl)⟩
abbrev mX10_vigilShare : MI := (yX10_vigilShare, cX10_vigilShare, 1, (some .float))
theorem kalX10_vigilShare : CalV mX10_vigilShare 0 := ⟨⟨inT2 (w := Cond.code yX10_vigilShare cX10_vigilShare 1 (some .float)) 217 (rfl) (rfl), inT1 (w := Cond.initialized "EngineMonastery") 1 (rfl) (rfl), by decide, by decide +kernel, by decide +kernel, by decide +kernel⟩, inT2 (w := Cond.instanceMethod yX10_vigilShare) 215 (rfl) (rfl), inT2 (w := Cond.selects "EngineMonastery" yX10_vigilShare yX10_vigilShare) 216 (rfl) (rfl)⟩
abbrev mX10_isConsistent : MI := (yX10_isConsistent, cX10_isConsistent, 1, (some .boolean))
theorem kalX10_isConsistent : CalV mX10_isConsistent 0 := ⟨⟨inT2 (w := Cond.code yX10_isConsistent cX10_isConsistent 1 (some .boolean)) 222 (rfl) (rfl), inT1 (w := Cond.initialized "EngineMonastery") 1 (rfl) (rfl), by decide, by decide +kernel, by decide +kernel, by decide +kernel⟩, inT2 (w := Cond.instanceMethod yX10_isConsistent) 220 (rfl) (rfl), inT2 (w := Cond.selects "EngineMonastery" yX10_isConsistent yX10_isConsistent) 221 (rfl) (rfl)⟩
abbrev mX10_enginesAgree : MI := (yX10_enginesAgree, cX10_enginesAgree, 2, (some .boolean))
theorem kalX10_enginesAgree : CalV mX10_enginesAgree 0 := ⟨⟨inT2 (w := Cond.code yX10_enginesAgree cX10_enginesAgree 2 (some .boolean)) 226 (rfl) (rfl), inT1 (w := Cond.initialized "EngineMonastery") 1 (rfl) (rfl), by decide, by decide +kernel, by decide +kernel, by decide +kernel⟩, inT2 (w := Cond.instanceMethod yX10_enginesAgree) 225 (rfl) (rfl), inWALL (w := Cond.selects "EngineMonastery" yX10_enginesAgree yX10_enginesAgree) 4 (by decide +kernel) (by decide +kernel)⟩
abbrev mX10_turnOf : MI := (yX10_turnOf, cX10_turnOf, 2, (some .int))
theorem kalX10_turnOf : CalV mX10_turnOf 1 := ⟨⟨inT2 (w := Cond.code yX10_turnOf cX10_turnOf 2 (some .int)) 230 (rfl) (rfl), inT1 (w := Cond.initialized "EngineMonastery") 1 (rfl) (rfl), by decide, by decide +kernel, by decide +kernel, by decide +kernel⟩, inT2 (w := Cond.instanceMethod yX10_turnOf) 228 (rfl) (rfl), inT2 (w := Cond.selects "EngineMonastery" yX10_turnOf yX10_turnOf) 229 (rfl) (rfl)⟩
abbrev mX10_existing : MI := (yX10_existing, cX10_existing, 2, (some (.object "EngineMonastery$Engine")))
theorem kalX10_existing : CalV mX10_existing 1 := ⟨⟨inT2 (w := Cond.code yX10_existing cX10_existing 2 (some (.object "EngineMonastery$Engine"))) 234 (rfl) (rfl), inT1 (w := Cond.initialized "EngineMonastery") 1 (rfl) (rfl), by decide, by decide +kernel, by decide +kernel, by decide +kernel⟩, inT2 (w := Cond.instanceMethod yX10_existing) 233 (rfl) (rfl), inWALL (w := Cond.selects "EngineMonastery" yX10_existing yX10_existing) 5 (by decide +kernel) (by decide +kernel)⟩
abbrev mX3_hasEngine : MI := (yX3_hasEngine, cX3_hasEngine, 2, (some .boolean))
theorem kalX3_hasEngine : CalV mX3_hasEngine 1 := ⟨⟨inT2 (w := Cond.code yX3_hasEngine cX3_hasEngine 2 (some .boolean)) 238 (rfl) (rfl), inT1 (w := Cond.initialized "EngineMonastery$House") 2 (rfl) (rfl), by decide, by decide +kernel, by decide +kernel, by decide +kernel⟩, inT2 (w := Cond.instanceMethod yX3_hasEngine) 236 (rfl) (rfl), inT2 (w := Cond.selects "EngineMonastery$House" yX3_hasEngine yX3_hasEngine) 237 (rfl) (rfl)⟩
abbrev mX10_isWithin : MI := (yX10_isWithin, cX10_isWithin, 3, (some .boolean))
theorem kalX10_isWithin : CalS mX10_isWithin 3 := ⟨⟨inT3 (w := Cond.code yX10_isWithin cX10_isWithin 3 (some .boolean)) 1 (rfl) (rfl), inT1 (w := Cond.initialized "EngineMonastery") 1 (rfl) (rfl), by decide, by decide +kernel, by decide +kernel, by decide +kernel⟩, inT3 (w := Cond.static yX10_isWithin) 0 (rfl) (rfl)⟩
abbrev mX10_requireIndex : MI := (yX10_requireIndex, cX10_requireIndex, 1, none)
theorem kalX10_requireIndex : CalS mX10_requireIndex 1 := ⟨⟨inT3 (w := Cond.code yX10_requireIndex cX10_requireIndex 1 none) 4 (rfl) (rfl), inT1 (w := Cond.initialized "EngineMonastery") 1 (rfl) (rfl), by decide, by decide +kernel, by decide +kernel, by decide +kernel⟩, inT3 (w := Cond.static yX10_requireIndex) 3 (rfl) (rfl)⟩
abbrev mX1_turnByCycles : MI := (yX1_turnByCycles, cX1_turnByCycles, 3, (some .int))
theorem kalX1_turnByCycles : CalV mX1_turnByCycles 0 := ⟨⟨inT3 (w := Cond.code yX1_turnByCycles cX1_turnByCycles 3 (some .int)) 75 (rfl) (rfl), inT1 (w := Cond.initialized "EngineMonastery$Engine") 5 (rfl) (rfl), by decide, by decide +kernel, by decide +kernel, by decide +kernel⟩, inT3 (w := Cond.instanceMethod yX1_turnByCycles) 73 (rfl) (rfl), inT3 (w := Cond.selects "EngineMonastery$Engine" yX1_turnByCycles yX1_turnByCycles) 74 (rfl) (rfl)⟩
abbrev mX1_cycleFrom : MI := (yX1_cycleFrom, cX1_cycleFrom, 4, (some .int))
theorem kalX1_cycleFrom : CalV mX1_cycleFrom 1 := ⟨⟨inT3 (w := Cond.code yX1_cycleFrom cX1_cycleFrom 4 (some .int)) 79 (rfl) (rfl), inT1 (w := Cond.initialized "EngineMonastery$Engine") 5 (rfl) (rfl), by decide, by decide +kernel, by decide +kernel, by decide +kernel⟩, inT3 (w := Cond.instanceMethod yX1_cycleFrom) 77 (rfl) (rfl), inT3 (w := Cond.selects "EngineMonastery$Engine" yX1_cycleFrom yX1_cycleFrom) 78 (rfl) (rfl)⟩
abbrev mX1_leastCommonMultiple : MI := (yX1_leastCommonMultiple, cX1_leastCommonMultiple, 3, (some .int))
theorem kalX1_leastCommonMultiple : CalS mX1_leastCommonMultiple 2 := ⟨⟨inT3 (w := Cond.code yX1_leastCommonMultiple cX1_leastCommonMultiple 3 (some .int)) 82 (rfl) (rfl), inT1 (w := Cond.initialized "EngineMonastery$Engine") 5 (rfl) (rfl), by decide, by decide +kernel, by decide +kernel, by decide +kernel⟩, inT3 (w := Cond.static yX1_leastCommonMultiple) 81 (rfl) (rfl)⟩
abbrev mX10_turnByRepeating : MI := (yX10_turnByRepeating, cX10_turnByRepeating, 2, (some .int))
theorem kalX10_turnByRepeating : CalV mX10_turnByRepeating 1 := ⟨⟨inT3 (w := Cond.code yX10_turnByRepeating cX10_turnByRepeating 2 (some .int)) 86 (rfl) (rfl), inT1 (w := Cond.initialized "EngineMonastery") 1 (rfl) (rfl), by decide, by decide +kernel, by decide +kernel, by decide +kernel⟩, inT3 (w := Cond.instanceMethod yX10_turnByRepeating) 84 (rfl) (rfl), inT3 (w := Cond.selects "EngineMonastery" yX10_turnByRepeating yX10_turnByRepeating) 85 (rfl) (rfl)⟩
abbrev mX1_turnBySteps : MI := (yX1_turnBySteps, cX1_turnBySteps, 3, (some .int))
theorem kalX1_turnBySteps : CalV mX1_turnBySteps 0 := ⟨⟨inT3 (w := Cond.code yX1_turnBySteps cX1_turnBySteps 3 (some .int)) 90 (rfl) (rfl), inT1 (w := Cond.initialized "EngineMonastery$Engine") 5 (rfl) (rfl), by decide, by decide +kernel, by decide +kernel, by decide +kernel⟩, inT3 (w := Cond.instanceMethod yX1_turnBySteps) 88 (rfl) (rfl), inT3 (w := Cond.selects "EngineMonastery$Engine" yX1_turnBySteps yX1_turnBySteps) 89 (rfl) (rfl)⟩
abbrev mX1_leadsBackAfter : MI := (yX1_leadsBackAfter, cX1_leadsBackAfter, 5, (some .boolean))
theorem kalX1_leadsBackAfter : CalV mX1_leadsBackAfter 1 := ⟨⟨inT3 (w := Cond.code yX1_leadsBackAfter cX1_leadsBackAfter 5 (some .boolean)) 94 (rfl) (rfl), inT1 (w := Cond.initialized "EngineMonastery$Engine") 5 (rfl) (rfl), by decide, by decide +kernel, by decide +kernel, by decide +kernel⟩, inT3 (w := Cond.instanceMethod yX1_leadsBackAfter) 92 (rfl) (rfl), inT3 (w := Cond.selects "EngineMonastery$Engine" yX1_leadsBackAfter yX1_leadsBackAfter) 93 (rfl) (rfl)⟩
abbrev mX10_evenOrders : MI := (yX10_evenOrders, cX10_evenOrders, 4, (some .int))
theorem kalX10_evenOrders : CalV mX10_evenOrders 2 := ⟨⟨inT3 (w := Cond.code yX10_evenOrders cX10_evenOrders 4 (some .int)) 98 (rfl) (rfl), inT1 (w := Cond.initialized "EngineMonastery") 1 (rfl) (rfl), by decide, by decide +kernel, by decide +kernel, by decide +kernel⟩, inT3 (w := Cond.instanceMethod yX10_evenOrders) 96 (rfl) (rfl), inT3 (w := Cond.selects "EngineMonastery" yX10_evenOrders yX10_evenOrders) 97 (rfl) (rfl)⟩
abbrev mX10_requireArgument : MI := (yX10_requireArgument, cX10_requireArgument, 1, none)
theorem kalX10_requireArgument : CalS mX10_requireArgument 1 := ⟨⟨inT3 (w := Cond.code yX10_requireArgument cX10_requireArgument 1 none) 102 (rfl) (rfl), inT1 (w := Cond.initialized "EngineMonastery") 1 (rfl) (rfl), by decide, by decide +kernel, by decide +kernel, by decide +kernel⟩, inT3 (w := Cond.static yX10_requireArgument) 101 (rfl) (rfl)⟩
abbrev mX2_countByTable : MI := (yX2_countByTable, cX2_countByTable, 6, (some .int))
theorem kalX2_countByTable : CalV mX2_countByTable 2 := ⟨⟨inT3 (w := Cond.code yX2_countByTable cX2_countByTable 6 (some .int)) 121 (rfl) (rfl), inT1 (w := Cond.initialized "EngineMonastery$EvenOrders") 7 (rfl) (rfl), by decide, by decide +kernel, by decide +kernel, by decide +kernel⟩, inT3 (w := Cond.instanceMethod yX2_countByTable) 119 (rfl) (rfl), inT3 (w := Cond.selects "EngineMonastery$EvenOrders" yX2_countByTable yX2_countByTable) 120 (rfl) (rfl)⟩
abbrev mX2_goOn : MI := (yX2_goOn, cX2_goOn, 8, none)
theorem kalX2_goOn : CalV mX2_goOn 4 := ⟨⟨inT3 (w := Cond.code yX2_goOn cX2_goOn 8 none) 125 (rfl) (rfl), inT1 (w := Cond.initialized "EngineMonastery$EvenOrders") 7 (rfl) (rfl), by decide, by decide +kernel, by decide +kernel, by decide +kernel⟩, inT3 (w := Cond.instanceMethod yX2_goOn) 124 (rfl) (rfl), inWALL (w := Cond.selects "EngineMonastery$EvenOrders" yX2_goOn yX2_goOn) 7 (by decide +kernel) (by decide +kernel)⟩
abbrev mX10_distance : MI := (yX10_distance, cX10_distance, 4, (some .int))
theorem kalX10_distance : CalS mX10_distance 3 := ⟨⟨inT3 (w := Cond.code yX10_distance cX10_distance 4 (some .int)) 128 (rfl) (rfl), inT1 (w := Cond.initialized "EngineMonastery") 1 (rfl) (rfl), by decide, by decide +kernel, by decide +kernel, by decide +kernel⟩, inT3 (w := Cond.static yX10_distance) 127 (rfl) (rfl)⟩
abbrev mX2_sumOfEnds : MI := (yX2_sumOfEnds, cX2_sumOfEnds, 6, (some .int))
theorem kalX2_sumOfEnds : CalV mX2_sumOfEnds 2 := ⟨⟨inT3 (w := Cond.code yX2_sumOfEnds cX2_sumOfEnds 6 (some .int)) 136 (rfl) (rfl), inT1 (w := Cond.initialized "EngineMonastery$EvenOrders") 7 (rfl) (rfl), by decide, by decide +kernel, by decide +kernel, by decide +kernel⟩, inT3 (w := Cond.instanceMethod yX2_sumOfEnds) 135 (rfl) (rfl), inWALL (w := Cond.selects "EngineMonastery$EvenOrders" yX2_sumOfEnds yX2_sumOfEnds) 8 (by decide +kernel) (by decide +kernel)⟩
abbrev mX10_evenOrdersByTrying : MI := (yX10_evenOrdersByTrying, cX10_evenOrdersByTrying, 4, (some .int))
theorem kalX10_evenOrdersByTrying : CalV mX10_evenOrdersByTrying 2 := ⟨⟨inT3 (w := Cond.code yX10_evenOrdersByTrying cX10_evenOrdersByTrying 4 (some .int)) 140 (rfl) (rfl), inT1 (w := Cond.initialized "EngineMonastery") 1 (rfl) (rfl), by decide, by decide +kernel, by decide +kernel, by decide +kernel⟩, inT3 (w := Cond.instanceMethod yX10_evenOrdersByTrying) 138 (rfl) (rfl), inT3 (w := Cond.selects "EngineMonastery" yX10_evenOrdersByTrying yX10_evenOrdersByTrying) 139 (rfl) (rfl)⟩
abbrev mX2_countBySwapping : MI := (yX2_countBySwapping, cX2_countBySwapping, 4, (some .int))
theorem kalX2_countBySwapping : CalV mX2_countBySwapping 2 := ⟨⟨inT3 (w := Cond.code yX2_countBySwapping cX2_countBySwapping 4 (some .int)) 144 (rfl) (rfl), inT1 (w := Cond.initialized "EngineMonastery$EvenOrders") 7 (rfl) (rfl), by decide, by decide +kernel, by decide +kernel, by decide +kernel⟩, inT3 (w := Cond.instanceMethod yX2_countBySwapping) 142 (rfl) (rfl), inT3 (w := Cond.selects "EngineMonastery$EvenOrders" yX2_countBySwapping yX2_countBySwapping) 143 (rfl) (rfl)⟩
abbrev mX2_countFrom : MI := (yX2_countFrom, cX2_countFrom, 7, (some .int))
theorem kalX2_countFrom : CalS mX2_countFrom 4 := ⟨⟨inT3 (w := Cond.code yX2_countFrom cX2_countFrom 7 (some .int)) 147 (rfl) (rfl), inT1 (w := Cond.initialized "EngineMonastery$EvenOrders") 7 (rfl) (rfl), by decide, by decide +kernel, by decide +kernel, by decide +kernel⟩, inT3 (w := Cond.static yX2_countFrom) 146 (rfl) (rfl)⟩
abbrev mX10_knockCount : MI := (yX10_knockCount, cX10_knockCount, 2, (some .int))
theorem kalX10_knockCount : CalV mX10_knockCount 1 := ⟨⟨inT3 (w := Cond.code yX10_knockCount cX10_knockCount 2 (some .int)) 151 (rfl) (rfl), inT1 (w := Cond.initialized "EngineMonastery") 1 (rfl) (rfl), by decide, by decide +kernel, by decide +kernel, by decide +kernel⟩, inT3 (w := Cond.instanceMethod yX10_knockCount) 149 (rfl) (rfl), inT3 (w := Cond.selects "EngineMonastery" yX10_knockCount yX10_knockCount) 150 (rfl) (rfl)⟩
abbrev mX10_knockPeriod : MI := (yX10_knockPeriod, cX10_knockPeriod, 3, (some .int))
theorem kalX10_knockPeriod : CalV mX10_knockPeriod 1 := ⟨⟨inT3 (w := Cond.code yX10_knockPeriod cX10_knockPeriod 3 (some .int)) 155 (rfl) (rfl), inT1 (w := Cond.initialized "EngineMonastery") 1 (rfl) (rfl), by decide, by decide +kernel, by decide +kernel, by decide +kernel⟩, inT3 (w := Cond.instanceMethod yX10_knockPeriod) 153 (rfl) (rfl), inT3 (w := Cond.selects "EngineMonastery" yX10_knockPeriod yX10_knockPeriod) 154 (rfl) (rfl)⟩
abbrev mX10_requireElement : MI := (yX10_requireElement, cX10_requireElement, 1, none)
theorem kalX10_requireElement : CalS mX10_requireElement 1 := ⟨⟨inT3 (w := Cond.code yX10_requireElement cX10_requireElement 1 none) 158 (rfl) (rfl), inT1 (w := Cond.initialized "EngineMonastery") 1 (rfl) (rfl), by decide, by decide +kernel, by decide +kernel, by decide +kernel⟩, inT3 (w := Cond.static yX10_requireElement) 157 (rfl) (rfl)⟩
abbrev mX1_periodByBorders : MI := (yX1_periodByBorders, cX1_periodByBorders, 6, (some .int))
theorem kalX1_periodByBorders : CalV mX1_periodByBorders 1 := ⟨⟨inT3 (w := Cond.code yX1_periodByBorders cX1_periodByBorders 6 (some .int)) 177 (rfl) (rfl), inT1 (w := Cond.initialized "EngineMonastery$Engine") 5 (rfl) (rfl), by decide, by decide +kernel, by decide +kernel, by decide +kernel⟩, inT3 (w := Cond.instanceMethod yX1_periodByBorders) 175 (rfl) (rfl), inT3 (w := Cond.selects "EngineMonastery$Engine" yX1_periodByBorders yX1_periodByBorders) 176 (rfl) (rfl)⟩
abbrev mX1_keptKnock : MI := (yX1_keptKnock, cX1_keptKnock, 2, (some .int))
theorem kalX1_keptKnock : CalV mX1_keptKnock 1 := ⟨⟨inT3 (w := Cond.code yX1_keptKnock cX1_keptKnock 2 (some .int)) 181 (rfl) (rfl), inT1 (w := Cond.initialized "EngineMonastery$Engine") 5 (rfl) (rfl), by decide, by decide +kernel, by decide +kernel, by decide +kernel⟩, inT3 (w := Cond.instanceMethod yX1_keptKnock) 179 (rfl) (rfl), inT3 (w := Cond.selects "EngineMonastery$Engine" yX1_keptKnock yX1_keptKnock) 180 (rfl) (rfl)⟩
abbrev mX10_knockPeriodByTrying : MI := (yX10_knockPeriodByTrying, cX10_knockPeriodByTrying, 3, (some .int))
theorem kalX10_knockPeriodByTrying : CalV mX10_knockPeriodByTrying 1 := ⟨⟨inT3 (w := Cond.code yX10_knockPeriodByTrying cX10_knockPeriodByTrying 3 (some .int)) 185 (rfl) (rfl), inT1 (w := Cond.initialized "EngineMonastery") 1 (rfl) (rfl), by decide, by decide +kernel, by decide +kernel, by decide +kernel⟩, inT3 (w := Cond.instanceMethod yX10_knockPeriodByTrying) 183 (rfl) (rfl), inT3 (w := Cond.selects "EngineMonastery" yX10_knockPeriodByTrying yX10_knockPeriodByTrying) 184 (rfl) (rfl)⟩
abbrev mX1_periodByTrials : MI := (yX1_periodByTrials, cX1_periodByTrials, 2, (some .int))
theorem kalX1_periodByTrials : CalV mX1_periodByTrials 0 := ⟨⟨inT3 (w := Cond.code yX1_periodByTrials cX1_periodByTrials 2 (some .int)) 189 (rfl) (rfl), inT1 (w := Cond.initialized "EngineMonastery$Engine") 5 (rfl) (rfl), by decide, by decide +kernel, by decide +kernel, by decide +kernel⟩, inT3 (w := Cond.instanceMethod yX1_periodByTrials) 187 (rfl) (rfl), inT3 (w := Cond.selects "EngineMonastery$Engine" yX1_periodByTrials yX1_periodByTrials) 188 (rfl) (rfl)⟩
abbrev mX1_repeatsAfter : MI := (yX1_repeatsAfter, cX1_repeatsAfter, 3, (some .boolean))
theorem kalX1_repeatsAfter : CalV mX1_repeatsAfter 1 := ⟨⟨inT3 (w := Cond.code yX1_repeatsAfter cX1_repeatsAfter 3 (some .boolean)) 193 (rfl) (rfl), inT1 (w := Cond.initialized "EngineMonastery$Engine") 5 (rfl) (rfl), by decide, by decide +kernel, by decide +kernel, by decide +kernel⟩, inT3 (w := Cond.instanceMethod yX1_repeatsAfter) 191 (rfl) (rfl), inT3 (w := Cond.selects "EngineMonastery$Engine" yX1_repeatsAfter yX1_repeatsAfter) 192 (rfl) (rfl)⟩
abbrev mX10_oilAgrees : MI := (yX10_oilAgrees, cX10_oilAgrees, 2, (some .boolean))
theorem kalX10_oilAgrees : CalV mX10_oilAgrees 1 := ⟨⟨inT3 (w := Cond.code yX10_oilAgrees cX10_oilAgrees 2 (some .boolean)) 197 (rfl) (rfl), inT1 (w := Cond.initialized "EngineMonastery") 1 (rfl) (rfl), by decide, by decide +kernel, by decide +kernel, by decide +kernel⟩, inT3 (w := Cond.instanceMethod yX10_oilAgrees) 196 (rfl) (rfl), inWALL (w := Cond.selects "EngineMonastery" yX10_oilAgrees yX10_oilAgrees) 9 (by decide +kernel) (by decide +kernel)⟩
abbrev mX10_leastOilAfter : MI := (yX10_leastOilAfter, cX10_leastOilAfter, 2, (some .int))
theorem kalX10_leastOilAfter : CalV mX10_leastOilAfter 1 := ⟨⟨inT3 (w := Cond.code yX10_leastOilAfter cX10_leastOilAfter 2 (some .int)) 201 (rfl) (rfl), inT1 (w := Cond.initialized "EngineMonastery") 1 (rfl) (rfl), by decide, by decide +kernel, by decide +kernel, by decide +kernel⟩, inT3 (w := Cond.instanceMethod yX10_leastOilAfter) 199 (rfl) (rfl), inT3 (w := Cond.selects "EngineMonastery" yX10_leastOilAfter yX10_leastOilAfter) 200 (rfl) (rfl)⟩
abbrev mX3_levelByFilling : MI := (yX3_levelByFilling, cX3_levelByFilling, 7, (some .int))
theorem kalX3_levelByFilling : CalV mX3_levelByFilling 1 := ⟨⟨inT3 (w := Cond.code yX3_levelByFilling cX3_levelByFilling 7 (some .int)) 205 (rfl) (rfl), inT1 (w := Cond.initialized "EngineMonastery$House") 2 (rfl) (rfl), by decide, by decide +kernel, by decide +kernel, by decide +kernel⟩, inT3 (w := Cond.instanceMethod yX3_levelByFilling) 203 (rfl) (rfl), inT3 (w := Cond.selects "EngineMonastery$House" yX3_levelByFilling yX3_levelByFilling) 204 (rfl) (rfl)⟩
abbrev mX3_leastOil : MI := (yX3_leastOil, cX3_leastOil, 2, (some .int))
theorem kalX3_leastOil : CalV mX3_leastOil 0 := ⟨⟨inT3 (w := Cond.code yX3_leastOil cX3_leastOil 2 (some .int)) 209 (rfl) (rfl), inT1 (w := Cond.initialized "EngineMonastery$House") 2 (rfl) (rfl), by decide, by decide +kernel, by decide +kernel, by decide +kernel⟩, inT3 (w := Cond.instanceMethod yX3_leastOil) 207 (rfl) (rfl), inT3 (w := Cond.selects "EngineMonastery$House" yX3_leastOil yX3_leastOil) 208 (rfl) (rfl)⟩
abbrev mX3_driestSpot : MI := (yX3_driestSpot, cX3_driestSpot, 6, (some .int))
theorem kalX3_driestSpot : CalV mX3_driestSpot 0 := ⟨⟨inT3 (w := Cond.code yX3_driestSpot cX3_driestSpot 6 (some .int)) 213 (rfl) (rfl), inT1 (w := Cond.initialized "EngineMonastery$House") 2 (rfl) (rfl), by decide, by decide +kernel, by decide +kernel, by decide +kernel⟩, inT3 (w := Cond.instanceMethod yX3_driestSpot) 212 (rfl) (rfl), inWALL (w := Cond.selects "EngineMonastery$House" yX3_driestSpot yX3_driestSpot) 10 (by decide +kernel) (by decide +kernel)⟩
abbrev mX3_cylindersUpTo : MI := (yX3_cylindersUpTo, cX3_cylindersUpTo, 5, (some .int))
theorem kalX3_cylindersUpTo : CalV mX3_cylindersUpTo 1 := ⟨⟨inT3 (w := Cond.code yX3_cylindersUpTo cX3_cylindersUpTo 5 (some .int)) 217 (rfl) (rfl), inT1 (w := Cond.initialized "EngineMonastery$House") 2 (rfl) (rfl), by decide, by decide +kernel, by decide +kernel, by decide +kernel⟩, inT3 (w := Cond.instanceMethod yX3_cylindersUpTo) 216 (rfl) (rfl), inWALL (w := Cond.selects "EngineMonastery$House" yX3_cylindersUpTo yX3_cylindersUpTo) 11 (by decide +kernel) (by decide +kernel)⟩
abbrev mX3_leastOilAbove : MI := (yX3_leastOilAbove, cX3_leastOilAbove, 6, (some .int))
theorem kalX3_leastOilAbove : CalV mX3_leastOilAbove 1 := ⟨⟨inT3 (w := Cond.code yX3_leastOilAbove cX3_leastOilAbove 6 (some .int)) 221 (rfl) (rfl), inT1 (w := Cond.initialized "EngineMonastery$House") 2 (rfl) (rfl), by decide, by decide +kernel, by decide +kernel, by decide +kernel⟩, inT3 (w := Cond.instanceMethod yX3_leastOilAbove) 220 (rfl) (rfl), inWALL (w := Cond.selects "EngineMonastery$House" yX3_leastOilAbove yX3_leastOilAbove) 12 (by decide +kernel) (by decide +kernel)⟩
abbrev mX10_leastOilAfterByGiving : MI := (yX10_leastOilAfterByGiving, cX10_leastOilAfterByGiving, 2, (some .int))
theorem kalX10_leastOilAfterByGiving : CalV mX10_leastOilAfterByGiving 1 := ⟨⟨inT3 (w := Cond.code yX10_leastOilAfterByGiving cX10_leastOilAfterByGiving 2 (some .int)) 225 (rfl) (rfl), inT1 (w := Cond.initialized "EngineMonastery") 1 (rfl) (rfl), by decide, by decide +kernel, by decide +kernel, by decide +kernel⟩, inT3 (w := Cond.instanceMethod yX10_leastOilAfterByGiving) 223 (rfl) (rfl), inT3 (w := Cond.selects "EngineMonastery" yX10_leastOilAfterByGiving yX10_leastOilAfterByGiving) 224 (rfl) (rfl)⟩
abbrev mX3_become : MI := (yX3_become, cX3_become, 3, none)
theorem kalX3_become : CalV mX3_become 1 := ⟨⟨inT3 (w := Cond.code yX3_become cX3_become 3 none) 229 (rfl) (rfl), inT1 (w := Cond.initialized "EngineMonastery$House") 2 (rfl) (rfl), by decide, by decide +kernel, by decide +kernel, by decide +kernel⟩, inT3 (w := Cond.instanceMethod yX3_become) 227 (rfl) (rfl), inT3 (w := Cond.selects "EngineMonastery$House" yX3_become yX3_become) 228 (rfl) (rfl)⟩
abbrev mX1_become : MI := (yX1_become, cX1_become, 2, none)
theorem kalX1_become : CalV mX1_become 1 := ⟨⟨inT3 (w := Cond.code yX1_become cX1_become 2 none) 233 (rfl) (rfl), inT1 (w := Cond.initialized "EngineMonastery$Engine") 5 (rfl) (rfl), by decide, by decide +kernel, by decide +kernel, by decide +kernel⟩, inT3 (w := Cond.instanceMethod yX1_become) 231 (rfl) (rfl), inT3 (w := Cond.selects "EngineMonastery$Engine" yX1_become yX1_become) 232 (rfl) (rfl)⟩
abbrev mX8_become : MI := (yX8_become, cX8_become, 2, none)
theorem kalX8_become : CalV mX8_become 1 := ⟨⟨inT4 (w := Cond.code yX8_become cX8_become 2 none) 1 (rfl) (rfl), inT1 (w := Cond.initialized "EngineMonastery$Repairs") 3 (rfl) (rfl), by decide, by decide +kernel, by decide +kernel, by decide +kernel⟩, inT3 (w := Cond.instanceMethod yX8_become) 239 (rfl) (rfl), inT4 (w := Cond.selects "EngineMonastery$Repairs" yX8_become yX8_become) 0 (rfl) (rfl)⟩
abbrev mX4_become : MI := (yX4_become, cX4_become, 2, none)
theorem kalX4_become : CalV mX4_become 1 := ⟨⟨inT4 (w := Cond.code yX4_become cX4_become 2 none) 6 (rfl) (rfl), inT1 (w := Cond.initialized "EngineMonastery$KnockBook") 4 (rfl) (rfl), by decide, by decide +kernel, by decide +kernel, by decide +kernel⟩, inT4 (w := Cond.instanceMethod yX4_become) 4 (rfl) (rfl), inT4 (w := Cond.selects "EngineMonastery$KnockBook" yX4_become yX4_become) 5 (rfl) (rfl)⟩
abbrev mX3_giveToDriest : MI := (yX3_giveToDriest, cX3_giveToDriest, 4, none)
theorem kalX3_giveToDriest : CalV mX3_giveToDriest 1 := ⟨⟨inT4 (w := Cond.code yX3_giveToDriest cX3_giveToDriest 4 none) 11 (rfl) (rfl), inT1 (w := Cond.initialized "EngineMonastery$House") 2 (rfl) (rfl), by decide, by decide +kernel, by decide +kernel, by decide +kernel⟩, inT4 (w := Cond.instanceMethod yX3_giveToDriest) 9 (rfl) (rfl), inT4 (w := Cond.selects "EngineMonastery$House" yX3_giveToDriest yX3_giveToDriest) 10 (rfl) (rfl)⟩
abbrev mX10_save : MI := (yX10_save, cX10_save, 1, (some .int))
theorem kalX10_save : CalV mX10_save 0 := ⟨⟨inT4 (w := Cond.code yX10_save cX10_save 1 (some .int)) 22 (rfl) (rfl), inT1 (w := Cond.initialized "EngineMonastery") 1 (rfl) (rfl), by decide, by decide +kernel, by decide +kernel, by decide +kernel⟩, inT4 (w := Cond.instanceMethod yX10_save) 20 (rfl) (rfl), inT4 (w := Cond.selects "EngineMonastery" yX10_save yX10_save) 21 (rfl) (rfl)⟩
abbrev mX10_addEngine : MI := (yX10_addEngine, cX10_addEngine, 2, (some .int))
theorem kalX10_addEngine : CalV mX10_addEngine 1 := ⟨⟨inT4 (w := Cond.code yX10_addEngine cX10_addEngine 2 (some .int)) 31 (rfl) (rfl), inT1 (w := Cond.initialized "EngineMonastery") 1 (rfl) (rfl), by decide, by decide +kernel, by decide +kernel, by decide +kernel⟩, inT4 (w := Cond.instanceMethod yX10_addEngine) 29 (rfl) (rfl), inT4 (w := Cond.selects "EngineMonastery" yX10_addEngine yX10_addEngine) 30 (rfl) (rfl)⟩
abbrev mX3_faultOfEngine : MI := (yX3_faultOfEngine, cX3_faultOfEngine, 2, (some .int))
theorem kalX3_faultOfEngine : CalV mX3_faultOfEngine 1 := ⟨⟨inT4 (w := Cond.code yX3_faultOfEngine cX3_faultOfEngine 2 (some .int)) 35 (rfl) (rfl), inT1 (w := Cond.initialized "EngineMonastery$House") 2 (rfl) (rfl), by decide, by decide +kernel, by decide +kernel, by decide +kernel⟩, inT4 (w := Cond.instanceMethod yX3_faultOfEngine) 33 (rfl) (rfl), inT4 (w := Cond.selects "EngineMonastery$House" yX3_faultOfEngine yX3_faultOfEngine) 34 (rfl) (rfl)⟩
abbrev mX10_refuse : MI := (yX10_refuse, cX10_refuse, 1, none)
theorem kalX10_refuse : CalS mX10_refuse 1 := ⟨⟨inT4 (w := Cond.code yX10_refuse cX10_refuse 1 none) 38 (rfl) (rfl), inT1 (w := Cond.initialized "EngineMonastery") 1 (rfl) (rfl), by decide, by decide +kernel, by decide +kernel, by decide +kernel⟩, inT4 (w := Cond.static yX10_refuse) 37 (rfl) (rfl)⟩
abbrev mX10_requireState : MI := (yX10_requireState, cX10_requireState, 1, none)
theorem kalX10_requireState : CalS mX10_requireState 1 := ⟨⟨inT4 (w := Cond.code yX10_requireState cX10_requireState 1 none) 41 (rfl) (rfl), inT1 (w := Cond.initialized "EngineMonastery") 1 (rfl) (rfl), by decide, by decide +kernel, by decide +kernel, by decide +kernel⟩, inT4 (w := Cond.static yX10_requireState) 40 (rfl) (rfl)⟩
abbrev mX6_keep : MI := (yX6_keep, cX6_keep, 2, none)
theorem kalX6_keep : CalV mX6_keep 1 := ⟨⟨inT4 (w := Cond.code yX6_keep cX6_keep 2 none) 60 (rfl) (rfl), inT1 (w := Cond.initialized "EngineMonastery$Past") 6 (rfl) (rfl), by decide, by decide +kernel, by decide +kernel, by decide +kernel⟩, inT4 (w := Cond.instanceMethod yX6_keep) 58 (rfl) (rfl), inT4 (w := Cond.selects "EngineMonastery$Past" yX6_keep yX6_keep) 59 (rfl) (rfl)⟩
abbrev mX3_buildEngine : MI := (yX3_buildEngine, cX3_buildEngine, 2, (some .int))
theorem kalX3_buildEngine : CalV mX3_buildEngine 1 := ⟨⟨inT4 (w := Cond.code yX3_buildEngine cX3_buildEngine 2 (some .int)) 66 (rfl) (rfl), inT1 (w := Cond.initialized "EngineMonastery$House") 2 (rfl) (rfl), by decide, by decide +kernel, by decide +kernel, by decide +kernel⟩, inT4 (w := Cond.instanceMethod yX3_buildEngine) 64 (rfl) (rfl), inT4 (w := Cond.selects "EngineMonastery$House" yX3_buildEngine yX3_buildEngine) 65 (rfl) (rfl)⟩
abbrev mX1_begin : MI := (yX1_begin, cX1_begin, 3, none)
theorem kalX1_begin : CalV mX1_begin 1 := ⟨⟨inT4 (w := Cond.code yX1_begin cX1_begin 3 none) 70 (rfl) (rfl), inT1 (w := Cond.initialized "EngineMonastery$Engine") 5 (rfl) (rfl), by decide, by decide +kernel, by decide +kernel, by decide +kernel⟩, inT4 (w := Cond.instanceMethod yX1_begin) 68 (rfl) (rfl), inT4 (w := Cond.selects "EngineMonastery$Engine" yX1_begin yX1_begin) 69 (rfl) (rfl)⟩
abbrev mX10_exchange : MI := (yX10_exchange, cX10_exchange, 4, (some .int))
theorem kalX10_exchange : CalV mX10_exchange 3 := ⟨⟨inT4 (w := Cond.code yX10_exchange cX10_exchange 4 (some .int)) 110 (rfl) (rfl), inT1 (w := Cond.initialized "EngineMonastery") 1 (rfl) (rfl), by decide, by decide +kernel, by decide +kernel, by decide +kernel⟩, inT4 (w := Cond.instanceMethod yX10_exchange) 108 (rfl) (rfl), inT4 (w := Cond.selects "EngineMonastery" yX10_exchange yX10_exchange) 109 (rfl) (rfl)⟩
abbrev mX3_faultOfExchange : MI := (yX3_faultOfExchange, cX3_faultOfExchange, 4, (some .int))
theorem kalX3_faultOfExchange : CalV mX3_faultOfExchange 3 := ⟨⟨inT4 (w := Cond.code yX3_faultOfExchange cX3_faultOfExchange 4 (some .int)) 114 (rfl) (rfl), inT1 (w := Cond.initialized "EngineMonastery$House") 2 (rfl) (rfl), by decide, by decide +kernel, by decide +kernel, by decide +kernel⟩, inT4 (w := Cond.instanceMethod yX3_faultOfExchange) 112 (rfl) (rfl), inT4 (w := Cond.selects "EngineMonastery$House" yX3_faultOfExchange yX3_faultOfExchange) 113 (rfl) (rfl)⟩
abbrev mX3_hasCylinder : MI := (yX3_hasCylinder, cX3_hasCylinder, 3, (some .boolean))
theorem kalX3_hasCylinder : CalV mX3_hasCylinder 2 := ⟨⟨inT4 (w := Cond.code yX3_hasCylinder cX3_hasCylinder 3 (some .boolean)) 118 (rfl) (rfl), inT1 (w := Cond.initialized "EngineMonastery$House") 2 (rfl) (rfl), by decide, by decide +kernel, by decide +kernel, by decide +kernel⟩, inT4 (w := Cond.instanceMethod yX3_hasCylinder) 116 (rfl) (rfl), inT4 (w := Cond.selects "EngineMonastery$House" yX3_hasCylinder yX3_hasCylinder) 117 (rfl) (rfl)⟩
abbrev mX1_hasCylinder : MI := (yX1_hasCylinder, cX1_hasCylinder, 2, (some .boolean))
theorem kalX1_hasCylinder : CalV mX1_hasCylinder 1 := ⟨⟨inT4 (w := Cond.code yX1_hasCylinder cX1_hasCylinder 2 (some .boolean)) 123 (rfl) (rfl), inT1 (w := Cond.initialized "EngineMonastery$Engine") 5 (rfl) (rfl), by decide, by decide +kernel, by decide +kernel, by decide +kernel⟩, inT4 (w := Cond.instanceMethod yX1_hasCylinder) 121 (rfl) (rfl), inT4 (w := Cond.selects "EngineMonastery$Engine" yX1_hasCylinder yX1_hasCylinder) 122 (rfl) (rfl)⟩
abbrev mX1_swapPlaces : MI := (yX1_swapPlaces, cX1_swapPlaces, 4, (some .int))
theorem kalX1_swapPlaces : CalV mX1_swapPlaces 2 := ⟨⟨inT4 (w := Cond.code yX1_swapPlaces cX1_swapPlaces 4 (some .int)) 128 (rfl) (rfl), inT1 (w := Cond.initialized "EngineMonastery$Engine") 5 (rfl) (rfl), by decide, by decide +kernel, by decide +kernel, by decide +kernel⟩, inT4 (w := Cond.instanceMethod yX1_swapPlaces) 126 (rfl) (rfl), inT4 (w := Cond.selects "EngineMonastery$Engine" yX1_swapPlaces yX1_swapPlaces) 127 (rfl) (rfl)⟩
abbrev mX10_setRate : MI := (yX10_setRate, cX10_setRate, 3, (some .int))
theorem kalX10_setRate : CalV mX10_setRate 2 := ⟨⟨inT4 (w := Cond.code yX10_setRate cX10_setRate 3 (some .int)) 135 (rfl) (rfl), inT1 (w := Cond.initialized "EngineMonastery") 1 (rfl) (rfl), by decide, by decide +kernel, by decide +kernel, by decide +kernel⟩, inT4 (w := Cond.instanceMethod yX10_setRate) 133 (rfl) (rfl), inT4 (w := Cond.selects "EngineMonastery" yX10_setRate yX10_setRate) 134 (rfl) (rfl)⟩
abbrev mX3_faultOfRate : MI := (yX3_faultOfRate, cX3_faultOfRate, 3, (some .int))
theorem kalX3_faultOfRate : CalV mX3_faultOfRate 2 := ⟨⟨inT4 (w := Cond.code yX3_faultOfRate cX3_faultOfRate 3 (some .int)) 139 (rfl) (rfl), inT1 (w := Cond.initialized "EngineMonastery$House") 2 (rfl) (rfl), by decide, by decide +kernel, by decide +kernel, by decide +kernel⟩, inT4 (w := Cond.instanceMethod yX3_faultOfRate) 137 (rfl) (rfl), inT4 (w := Cond.selects "EngineMonastery$House" yX3_faultOfRate yX3_faultOfRate) 138 (rfl) (rfl)⟩
abbrev mX1_changeRate : MI := (yX1_changeRate, cX1_changeRate, 3, (some .int))
theorem kalX1_changeRate : CalV mX1_changeRate 1 := ⟨⟨inT4 (w := Cond.code yX1_changeRate cX1_changeRate 3 (some .int)) 143 (rfl) (rfl), inT1 (w := Cond.initialized "EngineMonastery$Engine") 5 (rfl) (rfl), by decide, by decide +kernel, by decide +kernel, by decide +kernel⟩, inT4 (w := Cond.instanceMethod yX1_changeRate) 141 (rfl) (rfl), inT4 (w := Cond.selects "EngineMonastery$Engine" yX1_changeRate yX1_changeRate) 142 (rfl) (rfl)⟩
abbrev mX10_cylinderCount : MI := (yX10_cylinderCount, cX10_cylinderCount, 2, (some .int))
theorem kalX10_cylinderCount : CalV mX10_cylinderCount 1 := ⟨⟨inT4 (w := Cond.code yX10_cylinderCount cX10_cylinderCount 2 (some .int)) 150 (rfl) (rfl), inT1 (w := Cond.initialized "EngineMonastery") 1 (rfl) (rfl), by decide, by decide +kernel, by decide +kernel, by decide +kernel⟩, inT4 (w := Cond.instanceMethod yX10_cylinderCount) 148 (rfl) (rfl), inT4 (w := Cond.selects "EngineMonastery" yX10_cylinderCount yX10_cylinderCount) 149 (rfl) (rfl)⟩
abbrev mX10_orderAt : MI := (yX10_orderAt, cX10_orderAt, 4, (some .int))
theorem kalX10_orderAt : CalV mX10_orderAt 2 := ⟨⟨inT4 (w := Cond.code yX10_orderAt cX10_orderAt 4 (some .int)) 157 (rfl) (rfl), inT1 (w := Cond.initialized "EngineMonastery") 1 (rfl) (rfl), by decide, by decide +kernel, by decide +kernel, by decide +kernel⟩, inT4 (w := Cond.instanceMethod yX10_orderAt) 155 (rfl) (rfl), inT4 (w := Cond.selects "EngineMonastery" yX10_orderAt yX10_orderAt) 156 (rfl) (rfl)⟩
abbrev mX10_dueAfter : MI := (yX10_dueAfter, cX10_dueAfter, 4, (some .int))
theorem kalX10_dueAfter : CalV mX10_dueAfter 2 := ⟨⟨inT4 (w := Cond.code yX10_dueAfter cX10_dueAfter 4 (some .int)) 165 (rfl) (rfl), inT1 (w := Cond.initialized "EngineMonastery") 1 (rfl) (rfl), by decide, by decide +kernel, by decide +kernel, by decide +kernel⟩, inT4 (w := Cond.instanceMethod yX10_dueAfter) 163 (rfl) (rfl), inT4 (w := Cond.selects "EngineMonastery" yX10_dueAfter yX10_dueAfter) 164 (rfl) (rfl)⟩
abbrev mX1_dueByDivision : MI := (yX1_dueByDivision, cX1_dueByDivision, 2, (some .int))
theorem kalX1_dueByDivision : CalV mX1_dueByDivision 1 := ⟨⟨inT4 (w := Cond.code yX1_dueByDivision cX1_dueByDivision 2 (some .int)) 169 (rfl) (rfl), inT1 (w := Cond.initialized "EngineMonastery$Engine") 5 (rfl) (rfl), by decide, by decide +kernel, by decide +kernel, by decide +kernel⟩, inT4 (w := Cond.instanceMethod yX1_dueByDivision) 167 (rfl) (rfl), inT4 (w := Cond.selects "EngineMonastery$Engine" yX1_dueByDivision yX1_dueByDivision) 168 (rfl) (rfl)⟩
abbrev mX10_dueAfterByStrokes : MI := (yX10_dueAfterByStrokes, cX10_dueAfterByStrokes, 4, (some .int))
theorem kalX10_dueAfterByStrokes : CalV mX10_dueAfterByStrokes 2 := ⟨⟨inT4 (w := Cond.code yX10_dueAfterByStrokes cX10_dueAfterByStrokes 4 (some .int)) 176 (rfl) (rfl), inT1 (w := Cond.initialized "EngineMonastery") 1 (rfl) (rfl), by decide, by decide +kernel, by decide +kernel, by decide +kernel⟩, inT4 (w := Cond.instanceMethod yX10_dueAfterByStrokes) 174 (rfl) (rfl), inT4 (w := Cond.selects "EngineMonastery" yX10_dueAfterByStrokes yX10_dueAfterByStrokes) 175 (rfl) (rfl)⟩
abbrev mX1_dueByCounting : MI := (yX1_dueByCounting, cX1_dueByCounting, 4, (some .int))
theorem kalX1_dueByCounting : CalV mX1_dueByCounting 1 := ⟨⟨inT4 (w := Cond.code yX1_dueByCounting cX1_dueByCounting 4 (some .int)) 180 (rfl) (rfl), inT1 (w := Cond.initialized "EngineMonastery$Engine") 5 (rfl) (rfl), by decide, by decide +kernel, by decide +kernel, by decide +kernel⟩, inT4 (w := Cond.instanceMethod yX1_dueByCounting) 178 (rfl) (rfl), inT4 (w := Cond.selects "EngineMonastery$Engine" yX1_dueByCounting yX1_dueByCounting) 179 (rfl) (rfl)⟩
abbrev mX1_placeAfter : MI := (yX1_placeAfter, cX1_placeAfter, 2, (some .int))
theorem kalX1_placeAfter : CalV mX1_placeAfter 1 := ⟨⟨inT4 (w := Cond.code yX1_placeAfter cX1_placeAfter 2 (some .int)) 184 (rfl) (rfl), inT1 (w := Cond.initialized "EngineMonastery$Engine") 5 (rfl) (rfl), by decide, by decide +kernel, by decide +kernel, by decide +kernel⟩, inT4 (w := Cond.instanceMethod yX1_placeAfter) 182 (rfl) (rfl), inT4 (w := Cond.selects "EngineMonastery$Engine" yX1_placeAfter yX1_placeAfter) 183 (rfl) (rfl)⟩
abbrev mX10_evenness : MI := (yX10_evenness, cX10_evenness, 2, (some .int))
theorem kalX10_evenness : CalV mX10_evenness 1 := ⟨⟨inT4 (w := Cond.code yX10_evenness cX10_evenness 2 (some .int)) 199 (rfl) (rfl), inT1 (w := Cond.initialized "EngineMonastery") 1 (rfl) (rfl), by decide, by decide +kernel, by decide +kernel, by decide +kernel⟩, inT4 (w := Cond.instanceMethod yX10_evenness) 197 (rfl) (rfl), inT4 (w := Cond.selects "EngineMonastery" yX10_evenness yX10_evenness) 198 (rfl) (rfl)⟩
abbrev mX1_leastDistance : MI := (yX1_leastDistance, cX1_leastDistance, 4, (some .int))
theorem kalX1_leastDistance : CalV mX1_leastDistance 0 := ⟨⟨inT4 (w := Cond.code yX1_leastDistance cX1_leastDistance 4 (some .int)) 203 (rfl) (rfl), inT1 (w := Cond.initialized "EngineMonastery$Engine") 5 (rfl) (rfl), by decide, by decide +kernel, by decide +kernel, by decide +kernel⟩, inT4 (w := Cond.instanceMethod yX1_leastDistance) 201 (rfl) (rfl), inT4 (w := Cond.selects "EngineMonastery$Engine" yX1_leastDistance yX1_leastDistance) 202 (rfl) (rfl)⟩
abbrev mX10_run : MI := (yX10_run, cX10_run, 3, (some .int))
theorem kalX10_run : CalV mX10_run 2 := ⟨⟨inT4 (w := Cond.code yX10_run cX10_run 3 (some .int)) 220 (rfl) (rfl), inT1 (w := Cond.initialized "EngineMonastery") 1 (rfl) (rfl), by decide, by decide +kernel, by decide +kernel, by decide +kernel⟩, inT4 (w := Cond.instanceMethod yX10_run) 218 (rfl) (rfl), inT4 (w := Cond.selects "EngineMonastery" yX10_run yX10_run) 219 (rfl) (rfl)⟩
abbrev mX3_faultOfRun : MI := (yX3_faultOfRun, cX3_faultOfRun, 3, (some .int))
theorem kalX3_faultOfRun : CalV mX3_faultOfRun 2 := ⟨⟨inT4 (w := Cond.code yX3_faultOfRun cX3_faultOfRun 3 (some .int)) 224 (rfl) (rfl), inT1 (w := Cond.initialized "EngineMonastery$House") 2 (rfl) (rfl), by decide, by decide +kernel, by decide +kernel, by decide +kernel⟩, inT4 (w := Cond.instanceMethod yX3_faultOfRun) 222 (rfl) (rfl), inT4 (w := Cond.selects "EngineMonastery$House" yX3_faultOfRun yX3_faultOfRun) 223 (rfl) (rfl)⟩
abbrev mX3_runEngine : MI := (yX3_runEngine, cX3_runEngine, 4, (some .int))
theorem kalX3_runEngine : CalV mX3_runEngine 2 := ⟨⟨inT4 (w := Cond.code yX3_runEngine cX3_runEngine 4 (some .int)) 228 (rfl) (rfl), inT1 (w := Cond.initialized "EngineMonastery$House") 2 (rfl) (rfl), by decide, by decide +kernel, by decide +kernel, by decide +kernel⟩, inT4 (w := Cond.instanceMethod yX3_runEngine) 226 (rfl) (rfl), inT4 (w := Cond.selects "EngineMonastery$House" yX3_runEngine yX3_runEngine) 227 (rfl) (rfl)⟩
abbrev mX1_turnOver : MI := (yX1_turnOver, cX1_turnOver, 5, (some .int))
theorem kalX1_turnOver : CalV mX1_turnOver 1 := ⟨⟨inT4 (w := Cond.code yX1_turnOver cX1_turnOver 5 (some .int)) 232 (rfl) (rfl), inT1 (w := Cond.initialized "EngineMonastery$Engine") 5 (rfl) (rfl), by decide, by decide +kernel, by decide +kernel, by decide +kernel⟩, inT4 (w := Cond.instanceMethod yX1_turnOver) 230 (rfl) (rfl), inT4 (w := Cond.selects "EngineMonastery$Engine" yX1_turnOver yX1_turnOver) 231 (rfl) (rfl)⟩
abbrev mX1_keepKnock : MI := (yX1_keepKnock, cX1_keepKnock, 2, none)
theorem kalX1_keepKnock : CalV mX1_keepKnock 1 := ⟨⟨inT4 (w := Cond.code yX1_keepKnock cX1_keepKnock 2 none) 236 (rfl) (rfl), inT1 (w := Cond.initialized "EngineMonastery$Engine") 5 (rfl) (rfl), by decide, by decide +kernel, by decide +kernel, by decide +kernel⟩, inT4 (w := Cond.instanceMethod yX1_keepKnock) 234 (rfl) (rfl), inT4 (w := Cond.selects "EngineMonastery$Engine" yX1_keepKnock yX1_keepKnock) 235 (rfl) (rfl)⟩
abbrev mX4_note : MI := (yX4_note, cX4_note, 3, none)
theorem kalX4_note : CalV mX4_note 2 := ⟨⟨inT5 (w := Cond.code yX4_note cX4_note 3 none) 0 (rfl) (rfl), inT1 (w := Cond.initialized "EngineMonastery$KnockBook") 4 (rfl) (rfl), by decide, by decide +kernel, by decide +kernel, by decide +kernel⟩, inT4 (w := Cond.instanceMethod yX4_note) 238 (rfl) (rfl), inT4 (w := Cond.selects "EngineMonastery$KnockBook" yX4_note yX4_note) 239 (rfl) (rfl)⟩
abbrev mX4_openHour : MI := (yX4_openHour, cX4_openHour, 2, none)
theorem kalX4_openHour : CalV mX4_openHour 1 := ⟨⟨inT5 (w := Cond.code yX4_openHour cX4_openHour 2 none) 4 (rfl) (rfl), inT1 (w := Cond.initialized "EngineMonastery$KnockBook") 4 (rfl) (rfl), by decide, by decide +kernel, by decide +kernel, by decide +kernel⟩, inT5 (w := Cond.instanceMethod yX4_openHour) 3 (rfl) (rfl), inWALL (w := Cond.selects "EngineMonastery$KnockBook" yX4_openHour yX4_openHour) 13 (by decide +kernel) (by decide +kernel)⟩
abbrev mX10_oil : MI := (yX10_oil, cX10_oil, 4, (some .int))
theorem kalX10_oil : CalV mX10_oil 3 := ⟨⟨inT5 (w := Cond.code yX10_oil cX10_oil 4 (some .int)) 11 (rfl) (rfl), inT1 (w := Cond.initialized "EngineMonastery") 1 (rfl) (rfl), by decide, by decide +kernel, by decide +kernel, by decide +kernel⟩, inT5 (w := Cond.instanceMethod yX10_oil) 9 (rfl) (rfl), inT5 (w := Cond.selects "EngineMonastery" yX10_oil yX10_oil) 10 (rfl) (rfl)⟩
abbrev mX3_faultOfOil : MI := (yX3_faultOfOil, cX3_faultOfOil, 4, (some .int))
theorem kalX3_faultOfOil : CalV mX3_faultOfOil 3 := ⟨⟨inT5 (w := Cond.code yX3_faultOfOil cX3_faultOfOil 4 (some .int)) 15 (rfl) (rfl), inT1 (w := Cond.initialized "EngineMonastery$House") 2 (rfl) (rfl), by decide, by decide +kernel, by decide +kernel, by decide +kernel⟩, inT5 (w := Cond.instanceMethod yX3_faultOfOil) 13 (rfl) (rfl), inT5 (w := Cond.selects "EngineMonastery$House" yX3_faultOfOil yX3_faultOfOil) 14 (rfl) (rfl)⟩
abbrev mX3_giveOil : MI := (yX3_giveOil, cX3_giveOil, 4, (some .int))
theorem kalX3_giveOil : CalV mX3_giveOil 3 := ⟨⟨inT5 (w := Cond.code yX3_giveOil cX3_giveOil 4 (some .int)) 19 (rfl) (rfl), inT1 (w := Cond.initialized "EngineMonastery$House") 2 (rfl) (rfl), by decide, by decide +kernel, by decide +kernel, by decide +kernel⟩, inT5 (w := Cond.instanceMethod yX3_giveOil) 17 (rfl) (rfl), inT5 (w := Cond.selects "EngineMonastery$House" yX3_giveOil yX3_giveOil) 18 (rfl) (rfl)⟩
abbrev mX10_oilDriest : MI := (yX10_oilDriest, cX10_oilDriest, 2, (some .int))
theorem kalX10_oilDriest : CalV mX10_oilDriest 1 := ⟨⟨inT5 (w := Cond.code yX10_oilDriest cX10_oilDriest 2 (some .int)) 26 (rfl) (rfl), inT1 (w := Cond.initialized "EngineMonastery") 1 (rfl) (rfl), by decide, by decide +kernel, by decide +kernel, by decide +kernel⟩, inT5 (w := Cond.instanceMethod yX10_oilDriest) 24 (rfl) (rfl), inT5 (w := Cond.selects "EngineMonastery" yX10_oilDriest yX10_oilDriest) 25 (rfl) (rfl)⟩
abbrev mX3_faultOfFill : MI := (yX3_faultOfFill, cX3_faultOfFill, 2, (some .int))
theorem kalX3_faultOfFill : CalV mX3_faultOfFill 1 := ⟨⟨inT5 (w := Cond.code yX3_faultOfFill cX3_faultOfFill 2 (some .int)) 30 (rfl) (rfl), inT1 (w := Cond.initialized "EngineMonastery$House") 2 (rfl) (rfl), by decide, by decide +kernel, by decide +kernel, by decide +kernel⟩, inT5 (w := Cond.instanceMethod yX3_faultOfFill) 28 (rfl) (rfl), inT5 (w := Cond.selects "EngineMonastery$House" yX3_faultOfFill yX3_faultOfFill) 29 (rfl) (rfl)⟩
abbrev mX3_fillFromStore : MI := (yX3_fillFromStore, cX3_fillFromStore, 2, (some .int))
theorem kalX3_fillFromStore : CalV mX3_fillFromStore 1 := ⟨⟨inT5 (w := Cond.code yX3_fillFromStore cX3_fillFromStore 2 (some .int)) 34 (rfl) (rfl), inT1 (w := Cond.initialized "EngineMonastery$House") 2 (rfl) (rfl), by decide, by decide +kernel, by decide +kernel, by decide +kernel⟩, inT5 (w := Cond.instanceMethod yX3_fillFromStore) 32 (rfl) (rfl), inT5 (w := Cond.selects "EngineMonastery$House" yX3_fillFromStore yX3_fillFromStore) 33 (rfl) (rfl)⟩
abbrev mX10_buyOil : MI := (yX10_buyOil, cX10_buyOil, 2, (some .int))
theorem kalX10_buyOil : CalV mX10_buyOil 1 := ⟨⟨inT5 (w := Cond.code yX10_buyOil cX10_buyOil 2 (some .int)) 51 (rfl) (rfl), inT1 (w := Cond.initialized "EngineMonastery") 1 (rfl) (rfl), by decide, by decide +kernel, by decide +kernel, by decide +kernel⟩, inT5 (w := Cond.instanceMethod yX10_buyOil) 49 (rfl) (rfl), inT5 (w := Cond.selects "EngineMonastery" yX10_buyOil yX10_buyOil) 50 (rfl) (rfl)⟩
abbrev mX3_faultOfPurchase : MI := (yX3_faultOfPurchase, cX3_faultOfPurchase, 2, (some .int))
theorem kalX3_faultOfPurchase : CalV mX3_faultOfPurchase 1 := ⟨⟨inT5 (w := Cond.code yX3_faultOfPurchase cX3_faultOfPurchase 2 (some .int)) 55 (rfl) (rfl), inT1 (w := Cond.initialized "EngineMonastery$House") 2 (rfl) (rfl), by decide, by decide +kernel, by decide +kernel, by decide +kernel⟩, inT5 (w := Cond.instanceMethod yX3_faultOfPurchase) 53 (rfl) (rfl), inT5 (w := Cond.selects "EngineMonastery$House" yX3_faultOfPurchase yX3_faultOfPurchase) 54 (rfl) (rfl)⟩
abbrev mX3_buyUnits : MI := (yX3_buyUnits, cX3_buyUnits, 2, (some .int))
theorem kalX3_buyUnits : CalV mX3_buyUnits 1 := ⟨⟨inT5 (w := Cond.code yX3_buyUnits cX3_buyUnits 2 (some .int)) 59 (rfl) (rfl), inT1 (w := Cond.initialized "EngineMonastery$House") 2 (rfl) (rfl), by decide, by decide +kernel, by decide +kernel, by decide +kernel⟩, inT5 (w := Cond.instanceMethod yX3_buyUnits) 57 (rfl) (rfl), inT5 (w := Cond.selects "EngineMonastery$House" yX3_buyUnits yX3_buyUnits) 58 (rfl) (rfl)⟩
abbrev mX10_oilOf : MI := (yX10_oilOf, cX10_oilOf, 4, (some .int))
theorem kalX10_oilOf : CalV mX10_oilOf 2 := ⟨⟨inT5 (w := Cond.code yX10_oilOf cX10_oilOf 4 (some .int)) 66 (rfl) (rfl), inT1 (w := Cond.initialized "EngineMonastery") 1 (rfl) (rfl), by decide, by decide +kernel, by decide +kernel, by decide +kernel⟩, inT5 (w := Cond.instanceMethod yX10_oilOf) 64 (rfl) (rfl), inT5 (w := Cond.selects "EngineMonastery" yX10_oilOf yX10_oilOf) 65 (rfl) (rfl)⟩
abbrev mX10_wearOf : MI := (yX10_wearOf, cX10_wearOf, 4, (some .int))
theorem kalX10_wearOf : CalV mX10_wearOf 2 := ⟨⟨inT5 (w := Cond.code yX10_wearOf cX10_wearOf 4 (some .int)) 73 (rfl) (rfl), inT1 (w := Cond.initialized "EngineMonastery") 1 (rfl) (rfl), by decide, by decide +kernel, by decide +kernel, by decide +kernel⟩, inT5 (w := Cond.instanceMethod yX10_wearOf) 71 (rfl) (rfl), inT5 (w := Cond.selects "EngineMonastery" yX10_wearOf yX10_wearOf) 72 (rfl) (rfl)⟩
abbrev mX10_knockAt : MI := (yX10_knockAt, cX10_knockAt, 4, (some .int))
theorem kalX10_knockAt : CalV mX10_knockAt 2 := ⟨⟨inT5 (w := Cond.code yX10_knockAt cX10_knockAt 4 (some .int)) 84 (rfl) (rfl), inT1 (w := Cond.initialized "EngineMonastery") 1 (rfl) (rfl), by decide, by decide +kernel, by decide +kernel, by decide +kernel⟩, inT5 (w := Cond.instanceMethod yX10_knockAt) 82 (rfl) (rfl), inT5 (w := Cond.selects "EngineMonastery" yX10_knockAt yX10_knockAt) 83 (rfl) (rfl)⟩
abbrev mX10_engineAtRank : MI := (yX10_engineAtRank, cX10_engineAtRank, 2, (some .int))
theorem kalX10_engineAtRank : CalV mX10_engineAtRank 1 := ⟨⟨inT5 (w := Cond.code yX10_engineAtRank cX10_engineAtRank 2 (some .int)) 100 (rfl) (rfl), inT1 (w := Cond.initialized "EngineMonastery") 1 (rfl) (rfl), by decide, by decide +kernel, by decide +kernel, by decide +kernel⟩, inT5 (w := Cond.instanceMethod yX10_engineAtRank) 98 (rfl) (rfl), inT5 (w := Cond.selects "EngineMonastery" yX10_engineAtRank yX10_engineAtRank) 99 (rfl) (rfl)⟩
abbrev mX3_engineOfRank : MI := (yX3_engineOfRank, cX3_engineOfRank, 3, (some .int))
theorem kalX3_engineOfRank : CalV mX3_engineOfRank 1 := ⟨⟨inT5 (w := Cond.code yX3_engineOfRank cX3_engineOfRank 3 (some .int)) 104 (rfl) (rfl), inT1 (w := Cond.initialized "EngineMonastery$House") 2 (rfl) (rfl), by decide, by decide +kernel, by decide +kernel, by decide +kernel⟩, inT5 (w := Cond.instanceMethod yX3_engineOfRank) 102 (rfl) (rfl), inT5 (w := Cond.selects "EngineMonastery$House" yX3_engineOfRank yX3_engineOfRank) 103 (rfl) (rfl)⟩
abbrev mX3_enginesBefore : MI := (yX3_enginesBefore, cX3_enginesBefore, 6, (some .int))
theorem kalX3_enginesBefore : CalV mX3_enginesBefore 1 := ⟨⟨inT5 (w := Cond.code yX3_enginesBefore cX3_enginesBefore 6 (some .int)) 108 (rfl) (rfl), inT1 (w := Cond.initialized "EngineMonastery$House") 2 (rfl) (rfl), by decide, by decide +kernel, by decide +kernel, by decide +kernel⟩, inT5 (w := Cond.instanceMethod yX3_enginesBefore) 107 (rfl) (rfl), inWALL (w := Cond.selects "EngineMonastery$House" yX3_enginesBefore yX3_enginesBefore) 14 (by decide +kernel) (by decide +kernel)⟩
abbrev mX10_addMonk : MI := (yX10_addMonk, cX10_addMonk, 1, (some .int))
theorem kalX10_addMonk : CalV mX10_addMonk 0 := ⟨⟨inT5 (w := Cond.code yX10_addMonk cX10_addMonk 1 (some .int)) 115 (rfl) (rfl), inT1 (w := Cond.initialized "EngineMonastery") 1 (rfl) (rfl), by decide, by decide +kernel, by decide +kernel, by decide +kernel⟩, inT5 (w := Cond.instanceMethod yX10_addMonk) 113 (rfl) (rfl), inT5 (w := Cond.selects "EngineMonastery" yX10_addMonk yX10_addMonk) 114 (rfl) (rfl)⟩
abbrev mX3_faultOfMonk : MI := (yX3_faultOfMonk, cX3_faultOfMonk, 1, (some .int))
theorem kalX3_faultOfMonk : CalV mX3_faultOfMonk 0 := ⟨⟨inT5 (w := Cond.code yX3_faultOfMonk cX3_faultOfMonk 1 (some .int)) 119 (rfl) (rfl), inT1 (w := Cond.initialized "EngineMonastery$House") 2 (rfl) (rfl), by decide, by decide +kernel, by decide +kernel, by decide +kernel⟩, inT5 (w := Cond.instanceMethod yX3_faultOfMonk) 117 (rfl) (rfl), inT5 (w := Cond.selects "EngineMonastery$House" yX3_faultOfMonk yX3_faultOfMonk) 118 (rfl) (rfl)⟩
abbrev mX3_receiveMonk : MI := (yX3_receiveMonk, cX3_receiveMonk, 1, (some .int))
theorem kalX3_receiveMonk : CalV mX3_receiveMonk 0 := ⟨⟨inT5 (w := Cond.code yX3_receiveMonk cX3_receiveMonk 1 (some .int)) 123 (rfl) (rfl), inT1 (w := Cond.initialized "EngineMonastery$House") 2 (rfl) (rfl), by decide, by decide +kernel, by decide +kernel, by decide +kernel⟩, inT5 (w := Cond.instanceMethod yX3_receiveMonk) 121 (rfl) (rfl), inT5 (w := Cond.selects "EngineMonastery$House" yX3_receiveMonk yX3_receiveMonk) 122 (rfl) (rfl)⟩
abbrev mX10_setAble : MI := (yX10_setAble, cX10_setAble, 4, (some .boolean))
theorem kalX10_setAble : CalV mX10_setAble 3 := ⟨⟨inT5 (w := Cond.code yX10_setAble cX10_setAble 4 (some .boolean)) 130 (rfl) (rfl), inT1 (w := Cond.initialized "EngineMonastery") 1 (rfl) (rfl), by decide, by decide +kernel, by decide +kernel, by decide +kernel⟩, inT5 (w := Cond.instanceMethod yX10_setAble) 128 (rfl) (rfl), inT5 (w := Cond.selects "EngineMonastery" yX10_setAble yX10_setAble) 129 (rfl) (rfl)⟩
abbrev mX3_faultOfAble : MI := (yX3_faultOfAble, cX3_faultOfAble, 4, (some .int))
theorem kalX3_faultOfAble : CalV mX3_faultOfAble 2 := ⟨⟨inT5 (w := Cond.code yX3_faultOfAble cX3_faultOfAble 4 (some .int)) 134 (rfl) (rfl), inT1 (w := Cond.initialized "EngineMonastery$House") 2 (rfl) (rfl), by decide, by decide +kernel, by decide +kernel, by decide +kernel⟩, inT5 (w := Cond.instanceMethod yX3_faultOfAble) 132 (rfl) (rfl), inT5 (w := Cond.selects "EngineMonastery$House" yX3_faultOfAble yX3_faultOfAble) 133 (rfl) (rfl)⟩
abbrev mX3_changeAble : MI := (yX3_changeAble, cX3_changeAble, 6, (some .boolean))
theorem kalX3_changeAble : CalV mX3_changeAble 3 := ⟨⟨inT5 (w := Cond.code yX3_changeAble cX3_changeAble 6 (some .boolean)) 138 (rfl) (rfl), inT1 (w := Cond.initialized "EngineMonastery$House") 2 (rfl) (rfl), by decide, by decide +kernel, by decide +kernel, by decide +kernel⟩, inT5 (w := Cond.instanceMethod yX3_changeAble) 136 (rfl) (rfl), inT5 (w := Cond.selects "EngineMonastery$House" yX3_changeAble yX3_changeAble) 137 (rfl) (rfl)⟩
abbrev mX10_keeperOf : MI := (yX10_keeperOf, cX10_keeperOf, 2, (some .int))
theorem kalX10_keeperOf : CalV mX10_keeperOf 1 := ⟨⟨inT5 (w := Cond.code yX10_keeperOf cX10_keeperOf 2 (some .int)) 145 (rfl) (rfl), inT1 (w := Cond.initialized "EngineMonastery") 1 (rfl) (rfl), by decide, by decide +kernel, by decide +kernel, by decide +kernel⟩, inT5 (w := Cond.instanceMethod yX10_keeperOf) 143 (rfl) (rfl), inT5 (w := Cond.selects "EngineMonastery" yX10_keeperOf yX10_keeperOf) 144 (rfl) (rfl)⟩
abbrev mX10_addRepair : MI := (yX10_addRepair, cX10_addRepair, 4, (some .int))
theorem kalX10_addRepair : CalV mX10_addRepair 3 := ⟨⟨inT5 (w := Cond.code yX10_addRepair cX10_addRepair 4 (some .int)) 152 (rfl) (rfl), inT1 (w := Cond.initialized "EngineMonastery") 1 (rfl) (rfl), by decide, by decide +kernel, by decide +kernel, by decide +kernel⟩, inT5 (w := Cond.instanceMethod yX10_addRepair) 150 (rfl) (rfl), inT5 (w := Cond.selects "EngineMonastery" yX10_addRepair yX10_addRepair) 151 (rfl) (rfl)⟩
abbrev mX3_faultOfRepair : MI := (yX3_faultOfRepair, cX3_faultOfRepair, 4, (some .int))
theorem kalX3_faultOfRepair : CalV mX3_faultOfRepair 3 := ⟨⟨inT5 (w := Cond.code yX3_faultOfRepair cX3_faultOfRepair 4 (some .int)) 156 (rfl) (rfl), inT1 (w := Cond.initialized "EngineMonastery$House") 2 (rfl) (rfl), by decide, by decide +kernel, by decide +kernel, by decide +kernel⟩, inT5 (w := Cond.instanceMethod yX3_faultOfRepair) 154 (rfl) (rfl), inT5 (w := Cond.selects "EngineMonastery$House" yX3_faultOfRepair yX3_faultOfRepair) 155 (rfl) (rfl)⟩
abbrev mX8_ask : MI := (yX8_ask, cX8_ask, 4, (some .int))
theorem kalX8_ask : CalV mX8_ask 3 := ⟨⟨inT5 (w := Cond.code yX8_ask cX8_ask 4 (some .int)) 160 (rfl) (rfl), inT1 (w := Cond.initialized "EngineMonastery$Repairs") 3 (rfl) (rfl), by decide, by decide +kernel, by decide +kernel, by decide +kernel⟩, inT5 (w := Cond.instanceMethod yX8_ask) 158 (rfl) (rfl), inT5 (w := Cond.selects "EngineMonastery$Repairs" yX8_ask yX8_ask) 159 (rfl) (rfl)⟩
abbrev mX10_removeRepair : MI := (yX10_removeRepair, cX10_removeRepair, 2, (some .int))
theorem kalX10_removeRepair : CalV mX10_removeRepair 1 := ⟨⟨inT5 (w := Cond.code yX10_removeRepair cX10_removeRepair 2 (some .int)) 167 (rfl) (rfl), inT1 (w := Cond.initialized "EngineMonastery") 1 (rfl) (rfl), by decide, by decide +kernel, by decide +kernel, by decide +kernel⟩, inT5 (w := Cond.instanceMethod yX10_removeRepair) 165 (rfl) (rfl), inT5 (w := Cond.selects "EngineMonastery" yX10_removeRepair yX10_removeRepair) 166 (rfl) (rfl)⟩
abbrev mX8_withdraw : MI := (yX8_withdraw, cX8_withdraw, 3, (some .int))
theorem kalX8_withdraw : CalV mX8_withdraw 1 := ⟨⟨inT5 (w := Cond.code yX8_withdraw cX8_withdraw 3 (some .int)) 171 (rfl) (rfl), inT1 (w := Cond.initialized "EngineMonastery$Repairs") 3 (rfl) (rfl), by decide, by decide +kernel, by decide +kernel, by decide +kernel⟩, inT5 (w := Cond.instanceMethod yX8_withdraw) 169 (rfl) (rfl), inT5 (w := Cond.selects "EngineMonastery$Repairs" yX8_withdraw yX8_withdraw) 170 (rfl) (rfl)⟩
abbrev mX10_repair : MI := (yX10_repair, cX10_repair, 1, (some .int))
theorem kalX10_repair : CalV mX10_repair 0 := ⟨⟨inT5 (w := Cond.code yX10_repair cX10_repair 1 (some .int)) 178 (rfl) (rfl), inT1 (w := Cond.initialized "EngineMonastery") 1 (rfl) (rfl), by decide, by decide +kernel, by decide +kernel, by decide +kernel⟩, inT5 (w := Cond.instanceMethod yX10_repair) 176 (rfl) (rfl), inT5 (w := Cond.selects "EngineMonastery" yX10_repair yX10_repair) 177 (rfl) (rfl)⟩
abbrev mX3_faultOfRepairing : MI := (yX3_faultOfRepairing, cX3_faultOfRepairing, 1, (some .int))
theorem kalX3_faultOfRepairing : CalV mX3_faultOfRepairing 0 := ⟨⟨inT5 (w := Cond.code yX3_faultOfRepairing cX3_faultOfRepairing 1 (some .int)) 182 (rfl) (rfl), inT1 (w := Cond.initialized "EngineMonastery$House") 2 (rfl) (rfl), by decide, by decide +kernel, by decide +kernel, by decide +kernel⟩, inT5 (w := Cond.instanceMethod yX3_faultOfRepairing) 180 (rfl) (rfl), inT5 (w := Cond.selects "EngineMonastery$House" yX3_faultOfRepairing yX3_faultOfRepairing) 181 (rfl) (rfl)⟩
abbrev mX3_doFirstRepair : MI := (yX3_doFirstRepair, cX3_doFirstRepair, 4, (some .int))
theorem kalX3_doFirstRepair : CalV mX3_doFirstRepair 0 := ⟨⟨inT5 (w := Cond.code yX3_doFirstRepair cX3_doFirstRepair 4 (some .int)) 186 (rfl) (rfl), inT1 (w := Cond.initialized "EngineMonastery$House") 2 (rfl) (rfl), by decide, by decide +kernel, by decide +kernel, by decide +kernel⟩, inT5 (w := Cond.instanceMethod yX3_doFirstRepair) 184 (rfl) (rfl), inT5 (w := Cond.selects "EngineMonastery$House" yX3_doFirstRepair yX3_doFirstRepair) 185 (rfl) (rfl)⟩
abbrev mX8_firstOfBest : MI := (yX8_firstOfBest, cX8_firstOfBest, 3, (some .int))
theorem kalX8_firstOfBest : CalV mX8_firstOfBest 0 := ⟨⟨inT5 (w := Cond.code yX8_firstOfBest cX8_firstOfBest 3 (some .int)) 190 (rfl) (rfl), inT1 (w := Cond.initialized "EngineMonastery$Repairs") 3 (rfl) (rfl), by decide, by decide +kernel, by decide +kernel, by decide +kernel⟩, inT5 (w := Cond.instanceMethod yX8_firstOfBest) 188 (rfl) (rfl), inT5 (w := Cond.selects "EngineMonastery$Repairs" yX8_firstOfBest yX8_firstOfBest) 189 (rfl) (rfl)⟩
abbrev mX8_penanceOfAnHour : MI := (yX8_penanceOfAnHour, cX8_penanceOfAnHour, 3, (some .int))
theorem kalX8_penanceOfAnHour : CalV mX8_penanceOfAnHour 0 := ⟨⟨inT5 (w := Cond.code yX8_penanceOfAnHour cX8_penanceOfAnHour 3 (some .int)) 195 (rfl) (rfl), inT1 (w := Cond.initialized "EngineMonastery$Repairs") 3 (rfl) (rfl), by decide, by decide +kernel, by decide +kernel, by decide +kernel⟩, inT5 (w := Cond.instanceMethod yX8_penanceOfAnHour) 193 (rfl) (rfl), inT5 (w := Cond.selects "EngineMonastery$Repairs" yX8_penanceOfAnHour yX8_penanceOfAnHour) 194 (rfl) (rfl)⟩
abbrev mX3_passHours : MI := (yX3_passHours, cX3_passHours, 5, (some .int))
theorem kalX3_passHours : CalV mX3_passHours 1 := ⟨⟨inT5 (w := Cond.code yX3_passHours cX3_passHours 5 (some .int)) 199 (rfl) (rfl), inT1 (w := Cond.initialized "EngineMonastery$House") 2 (rfl) (rfl), by decide, by decide +kernel, by decide +kernel, by decide +kernel⟩, inT5 (w := Cond.instanceMethod yX3_passHours) 197 (rfl) (rfl), inT5 (w := Cond.selects "EngineMonastery$House" yX3_passHours yX3_passHours) 198 (rfl) (rfl)⟩
abbrev mX1_renew : MI := (yX1_renew, cX1_renew, 2, none)
theorem kalX1_renew : CalV mX1_renew 0 := ⟨⟨inT5 (w := Cond.code yX1_renew cX1_renew 2 none) 204 (rfl) (rfl), inT1 (w := Cond.initialized "EngineMonastery$Engine") 5 (rfl) (rfl), by decide, by decide +kernel, by decide +kernel, by decide +kernel⟩, inT5 (w := Cond.instanceMethod yX1_renew) 202 (rfl) (rfl), inT5 (w := Cond.selects "EngineMonastery$Engine" yX1_renew yX1_renew) 203 (rfl) (rfl)⟩
abbrev mX10_pass : MI := (yX10_pass, cX10_pass, 2, (some .int))
theorem kalX10_pass : CalV mX10_pass 1 := ⟨⟨inT5 (w := Cond.code yX10_pass cX10_pass 2 (some .int)) 212 (rfl) (rfl), inT1 (w := Cond.initialized "EngineMonastery") 1 (rfl) (rfl), by decide, by decide +kernel, by decide +kernel, by decide +kernel⟩, inT5 (w := Cond.instanceMethod yX10_pass) 210 (rfl) (rfl), inT5 (w := Cond.selects "EngineMonastery" yX10_pass yX10_pass) 211 (rfl) (rfl)⟩
abbrev mX3_faultOfHours : MI := (yX3_faultOfHours, cX3_faultOfHours, 2, (some .int))
theorem kalX3_faultOfHours : CalV mX3_faultOfHours 1 := ⟨⟨inT5 (w := Cond.code yX3_faultOfHours cX3_faultOfHours 2 (some .int)) 216 (rfl) (rfl), inT1 (w := Cond.initialized "EngineMonastery$House") 2 (rfl) (rfl), by decide, by decide +kernel, by decide +kernel, by decide +kernel⟩, inT5 (w := Cond.instanceMethod yX3_faultOfHours) 214 (rfl) (rfl), inT5 (w := Cond.selects "EngineMonastery$House" yX3_faultOfHours yX3_faultOfHours) 215 (rfl) (rfl)⟩
abbrev mX10_knocksIn : MI := (yX10_knocksIn, cX10_knocksIn, 3, (some .int))
theorem kalX10_knocksIn : CalV mX10_knocksIn 1 := ⟨⟨inT5 (w := Cond.code yX10_knocksIn cX10_knocksIn 3 (some .int)) 224 (rfl) (rfl), inT1 (w := Cond.initialized "EngineMonastery") 1 (rfl) (rfl), by decide, by decide +kernel, by decide +kernel, by decide +kernel⟩, inT5 (w := Cond.instanceMethod yX10_knocksIn) 222 (rfl) (rfl), inT5 (w := Cond.selects "EngineMonastery" yX10_knocksIn yX10_knocksIn) 223 (rfl) (rfl)⟩
abbrev mX4_placeFrom : MI := (yX4_placeFrom, cX4_placeFrom, 3, (some .int))
theorem kalX4_placeFrom : CalV mX4_placeFrom 1 := ⟨⟨inT5 (w := Cond.code yX4_placeFrom cX4_placeFrom 3 (some .int)) 228 (rfl) (rfl), inT1 (w := Cond.initialized "EngineMonastery$KnockBook") 4 (rfl) (rfl), by decide, by decide +kernel, by decide +kernel, by decide +kernel⟩, inT5 (w := Cond.instanceMethod yX4_placeFrom) 226 (rfl) (rfl), inT5 (w := Cond.selects "EngineMonastery$KnockBook" yX4_placeFrom yX4_placeFrom) 227 (rfl) (rfl)⟩
abbrev mX10_hourOfKnocks : MI := (yX10_hourOfKnocks, cX10_hourOfKnocks, 3, (some .int))
theorem kalX10_hourOfKnocks : CalV mX10_hourOfKnocks 1 := ⟨⟨inT5 (w := Cond.code yX10_hourOfKnocks cX10_hourOfKnocks 3 (some .int)) 235 (rfl) (rfl), inT1 (w := Cond.initialized "EngineMonastery") 1 (rfl) (rfl), by decide, by decide +kernel, by decide +kernel, by decide +kernel⟩, inT5 (w := Cond.instanceMethod yX10_hourOfKnocks) 233 (rfl) (rfl), inT5 (w := Cond.selects "EngineMonastery" yX10_hourOfKnocks yX10_hourOfKnocks) 234 (rfl) (rfl)⟩
abbrev mX10_append : MI := (yX10_append, cX10_append, 2, (some .int))
theorem kalX10_append : CalV mX10_append 1 := ⟨⟨inT6 (w := Cond.code yX10_append cX10_append 2 (some .int)) 2 (rfl) (rfl), inT1 (w := Cond.initialized "EngineMonastery") 1 (rfl) (rfl), by decide, by decide +kernel, by decide +kernel, by decide +kernel⟩, inT6 (w := Cond.instanceMethod yX10_append) 0 (rfl) (rfl), inT6 (w := Cond.selects "EngineMonastery" yX10_append yX10_append) 1 (rfl) (rfl)⟩
abbrev mX0_hasRoom : MI := (yX0_hasRoom, cX0_hasRoom, 1, (some .boolean))
theorem kalX0_hasRoom : CalV mX0_hasRoom 0 := ⟨⟨inT6 (w := Cond.code yX0_hasRoom cX0_hasRoom 1 (some .boolean)) 6 (rfl) (rfl), inT1 (w := Cond.initialized "EngineMonastery$CommandText") 10 (rfl) (rfl), by decide, by decide +kernel, by decide +kernel, by decide +kernel⟩, inT6 (w := Cond.instanceMethod yX0_hasRoom) 4 (rfl) (rfl), inT6 (w := Cond.selects "EngineMonastery$CommandText" yX0_hasRoom yX0_hasRoom) 5 (rfl) (rfl)⟩
abbrev mX0_add : MI := (yX0_add, cX0_add, 2, (some .int))
theorem kalX0_add : CalV mX0_add 1 := ⟨⟨inT6 (w := Cond.code yX0_add cX0_add 2 (some .int)) 10 (rfl) (rfl), inT1 (w := Cond.initialized "EngineMonastery$CommandText") 10 (rfl) (rfl), by decide, by decide +kernel, by decide +kernel, by decide +kernel⟩, inT6 (w := Cond.instanceMethod yX0_add) 8 (rfl) (rfl), inT6 (w := Cond.selects "EngineMonastery$CommandText" yX0_add yX0_add) 9 (rfl) (rfl)⟩
abbrev mX10_execute : MI := (yX10_execute, cX10_execute, 3, (some .int))
theorem kalX10_execute : CalV mX10_execute 0 := ⟨⟨inT6 (w := Cond.code yX10_execute cX10_execute 3 (some .int)) 17 (rfl) (rfl), inT1 (w := Cond.initialized "EngineMonastery") 1 (rfl) (rfl), by decide, by decide +kernel, by decide +kernel, by decide +kernel⟩, inT6 (w := Cond.instanceMethod yX10_execute) 15 (rfl) (rfl), inT6 (w := Cond.selects "EngineMonastery" yX10_execute yX10_execute) 16 (rfl) (rfl)⟩
abbrev mX0_read : MI := (yX0_read, cX0_read, 4, (some .int))
theorem kalX0_read : CalV mX0_read 0 := ⟨⟨inT6 (w := Cond.code yX0_read cX0_read 4 (some .int)) 21 (rfl) (rfl), inT1 (w := Cond.initialized "EngineMonastery$CommandText") 10 (rfl) (rfl), by decide, by decide +kernel, by decide +kernel, by decide +kernel⟩, inT6 (w := Cond.instanceMethod yX0_read) 19 (rfl) (rfl), inT6 (w := Cond.selects "EngineMonastery$CommandText" yX0_read yX0_read) 20 (rfl) (rfl)⟩
abbrev mX0_readCommand : MI := (yX0_readCommand, cX0_readCommand, 5, (some .int))
theorem kalX0_readCommand : CalV mX0_readCommand 2 := ⟨⟨inT6 (w := Cond.code yX0_readCommand cX0_readCommand 5 (some .int)) 25 (rfl) (rfl), inT1 (w := Cond.initialized "EngineMonastery$CommandText") 10 (rfl) (rfl), by decide, by decide +kernel, by decide +kernel, by decide +kernel⟩, inT6 (w := Cond.instanceMethod yX0_readCommand) 24 (rfl) (rfl), inWALL (w := Cond.selects "EngineMonastery$CommandText" yX0_readCommand yX0_readCommand) 15 (by decide +kernel) (by decide +kernel)⟩
abbrev mX0_formOf : MI := (yX0_formOf, cX0_formOf, 1, (some (.object "java/lang/String")))
theorem kalX0_formOf : CalS mX0_formOf 1 := ⟨⟨inT6 (w := Cond.code yX0_formOf cX0_formOf 1 (some (.object "java/lang/String"))) 28 (rfl) (rfl), inT1 (w := Cond.initialized "EngineMonastery$CommandText") 10 (rfl) (rfl), by decide, by decide +kernel, by decide +kernel, by decide +kernel⟩, inT6 (w := Cond.static yX0_formOf) 27 (rfl) (rfl)⟩
abbrev mX0_fits : MI := (yX0_fits, cX0_fits, 6, (some .boolean))
theorem kalX0_fits : CalV mX0_fits 2 := ⟨⟨inT6 (w := Cond.code yX0_fits cX0_fits 6 (some .boolean)) 44 (rfl) (rfl), inT1 (w := Cond.initialized "EngineMonastery$CommandText") 10 (rfl) (rfl), by decide, by decide +kernel, by decide +kernel, by decide +kernel⟩, inT6 (w := Cond.instanceMethod yX0_fits) 43 (rfl) (rfl), inWALL (w := Cond.selects "EngineMonastery$CommandText" yX0_fits yX0_fits) 16 (by decide +kernel) (by decide +kernel)⟩
abbrev mJ0_length_8abf5 : MI := (yJ0_length_8abf5, cJ0_length_8abf5, 1, (some .int))
theorem kalJ0_length_8abf5 : CalV mJ0_length_8abf5 0 := ⟨⟨inT6 (w := Cond.code yJ0_length_8abf5 cJ0_length_8abf5 1 (some .int)) 48 (rfl) (rfl), inT1 (w := Cond.initialized "java/lang/String") 22 (rfl) (rfl), by decide, by decide +kernel, by decide +kernel, by decide +kernel⟩, inT6 (w := Cond.instanceMethod yJ0_length_8abf5) 46 (rfl) (rfl), inT6 (w := Cond.selects "java/lang/String" yJ0_length_8abf5 yJ0_length_8abf5) 47 (rfl) (rfl)⟩
abbrev mJ0_coder_7d493 : MI := (yJ0_coder_7d493, cJ0_coder_7d493, 1, (some .byte))
theorem kalJ0_coder_7d493 : CalV mJ0_coder_7d493 0 := ⟨⟨inT6 (w := Cond.code yJ0_coder_7d493 cJ0_coder_7d493 1 (some .byte)) 52 (rfl) (rfl), inT1 (w := Cond.initialized "java/lang/String") 22 (rfl) (rfl), by decide, by decide +kernel, by decide +kernel, by decide +kernel⟩, inT6 (w := Cond.instanceMethod yJ0_coder_7d493) 50 (rfl) (rfl), inT6 (w := Cond.selects "java/lang/String" yJ0_coder_7d493 yJ0_coder_7d493) 51 (rfl) (rfl)⟩
abbrev mJ0_charAt_5068e : MI := (yJ0_charAt_5068e, cJ0_charAt_5068e, 2, (some .char))
theorem kalJ0_charAt_5068e : CalV mJ0_charAt_5068e 1 := ⟨⟨inT6 (w := Cond.code yJ0_charAt_5068e cJ0_charAt_5068e 2 (some .char)) 58 (rfl) (rfl), inT1 (w := Cond.initialized "java/lang/String") 22 (rfl) (rfl), by decide, by decide +kernel, by decide +kernel, by decide +kernel⟩, inT6 (w := Cond.instanceMethod yJ0_charAt_5068e) 56 (rfl) (rfl), inT6 (w := Cond.selects "java/lang/String" yJ0_charAt_5068e yJ0_charAt_5068e) 57 (rfl) (rfl)⟩
abbrev mJ0_isLatin1_aae02 : MI := (yJ0_isLatin1_aae02, cJ0_isLatin1_aae02, 1, (some .boolean))
theorem kalJ0_isLatin1_aae02 : CalV mJ0_isLatin1_aae02 0 := ⟨⟨inT6 (w := Cond.code yJ0_isLatin1_aae02 cJ0_isLatin1_aae02 1 (some .boolean)) 62 (rfl) (rfl), inT1 (w := Cond.initialized "java/lang/String") 22 (rfl) (rfl), by decide, by decide +kernel, by decide +kernel, by decide +kernel⟩, inT6 (w := Cond.instanceMethod yJ0_isLatin1_aae02) 60 (rfl) (rfl), inT6 (w := Cond.selects "java/lang/String" yJ0_isLatin1_aae02 yJ0_isLatin1_aae02) 61 (rfl) (rfl)⟩
abbrev mJ1_charAt_3b067 : MI := (yJ1_charAt_3b067, cJ1_charAt_3b067, 2, (some .char))
theorem kalJ1_charAt_3b067 : CalS mJ1_charAt_3b067 2 := ⟨⟨inT6 (w := Cond.code yJ1_charAt_3b067 cJ1_charAt_3b067 2 (some .char)) 65 (rfl) (rfl), inT1 (w := Cond.initialized "java/lang/StringLatin1") 24 (rfl) (rfl), by decide, by decide +kernel, by decide +kernel, by decide +kernel⟩, inT6 (w := Cond.static yJ1_charAt_3b067) 64 (rfl) (rfl)⟩
abbrev mJ0_checkIndex_df160 : MI := (yJ0_checkIndex_df160, cJ0_checkIndex_df160, 2, none)
theorem kalJ0_checkIndex_df160 : CalS mJ0_checkIndex_df160 2 := ⟨⟨inT6 (w := Cond.code yJ0_checkIndex_df160 cJ0_checkIndex_df160 2 none) 68 (rfl) (rfl), inT1 (w := Cond.initialized "java/lang/String") 22 (rfl) (rfl), by decide, by decide +kernel, by decide +kernel, by decide +kernel⟩, inT6 (w := Cond.static yJ0_checkIndex_df160) 67 (rfl) (rfl)⟩
abbrev mJ3_checkIndex_8e157 : MI := (yJ3_checkIndex_8e157, cJ3_checkIndex_8e157, 3, (some .int))
theorem kalJ3_checkIndex_8e157 : CalS mJ3_checkIndex_8e157 3 := ⟨⟨inT6 (w := Cond.code yJ3_checkIndex_8e157 cJ3_checkIndex_8e157 3 (some .int)) 73 (rfl) (rfl), inT1 (w := Cond.initialized "jdk/internal/util/Preconditions") 25 (rfl) (rfl), by decide, by decide +kernel, by decide +kernel, by decide +kernel⟩, inT6 (w := Cond.static yJ3_checkIndex_8e157) 72 (rfl) (rfl)⟩
abbrev mX0_isDigit : MI := (yX0_isDigit, cX0_isDigit, 2, (some .boolean))
theorem kalX0_isDigit : CalV mX0_isDigit 1 := ⟨⟨inT6 (w := Cond.code yX0_isDigit cX0_isDigit 2 (some .boolean)) 96 (rfl) (rfl), inT1 (w := Cond.initialized "EngineMonastery$CommandText") 10 (rfl) (rfl), by decide, by decide +kernel, by decide +kernel, by decide +kernel⟩, inT6 (w := Cond.instanceMethod yX0_isDigit) 95 (rfl) (rfl), inWALL (w := Cond.selects "EngineMonastery$CommandText" yX0_isDigit yX0_isDigit) 17 (by decide +kernel) (by decide +kernel)⟩
abbrev mX0_readNumber : MI := (yX0_readNumber, cX0_readNumber, 3, (some .int))
theorem kalX0_readNumber : CalV mX0_readNumber 1 := ⟨⟨inT6 (w := Cond.code yX0_readNumber cX0_readNumber 3 (some .int)) 101 (rfl) (rfl), inT1 (w := Cond.initialized "EngineMonastery$CommandText") 10 (rfl) (rfl), by decide, by decide +kernel, by decide +kernel, by decide +kernel⟩, inT6 (w := Cond.instanceMethod yX0_readNumber) 100 (rfl) (rfl), inWALL (w := Cond.selects "EngineMonastery$CommandText" yX0_readNumber yX0_readNumber) 18 (by decide +kernel) (by decide +kernel)⟩
abbrev mX0_empty : MI := (yX0_empty, cX0_empty, 1, none)
theorem kalX0_empty : CalV mX0_empty 0 := ⟨⟨inT6 (w := Cond.code yX0_empty cX0_empty 1 none) 106 (rfl) (rfl), inT1 (w := Cond.initialized "EngineMonastery$CommandText") 10 (rfl) (rfl), by decide, by decide +kernel, by decide +kernel, by decide +kernel⟩, inT6 (w := Cond.instanceMethod yX0_empty) 104 (rfl) (rfl), inT6 (w := Cond.selects "EngineMonastery$CommandText" yX0_empty yX0_empty) 105 (rfl) (rfl)⟩
abbrev mX3_faultOf : MI := (yX3_faultOf, cX3_faultOf, 6, (some .int))
theorem kalX3_faultOf : CalV mX3_faultOf 2 := ⟨⟨inT6 (w := Cond.code yX3_faultOf cX3_faultOf 6 (some .int)) 110 (rfl) (rfl), inT1 (w := Cond.initialized "EngineMonastery$House") 2 (rfl) (rfl), by decide, by decide +kernel, by decide +kernel, by decide +kernel⟩, inT6 (w := Cond.instanceMethod yX3_faultOf) 108 (rfl) (rfl), inT6 (w := Cond.selects "EngineMonastery$House" yX3_faultOf yX3_faultOf) 109 (rfl) (rfl)⟩
abbrev mX0_numberOf : MI := (yX0_numberOf, cX0_numberOf, 3, (some .int))
theorem kalX0_numberOf : CalV mX0_numberOf 2 := ⟨⟨inT6 (w := Cond.code yX0_numberOf cX0_numberOf 3 (some .int)) 114 (rfl) (rfl), inT1 (w := Cond.initialized "EngineMonastery$CommandText") 10 (rfl) (rfl), by decide, by decide +kernel, by decide +kernel, by decide +kernel⟩, inT6 (w := Cond.instanceMethod yX0_numberOf) 112 (rfl) (rfl), inT6 (w := Cond.selects "EngineMonastery$CommandText" yX0_numberOf yX0_numberOf) 113 (rfl) (rfl)⟩
abbrev mX3_carryOut : MI := (yX3_carryOut, cX3_carryOut, 6, none)
theorem kalX3_carryOut : CalV mX3_carryOut 2 := ⟨⟨inT6 (w := Cond.code yX3_carryOut cX3_carryOut 6 none) 130 (rfl) (rfl), inT1 (w := Cond.initialized "EngineMonastery$House") 2 (rfl) (rfl), by decide, by decide +kernel, by decide +kernel, by decide +kernel⟩, inT6 (w := Cond.instanceMethod yX3_carryOut) 128 (rfl) (rfl), inT6 (w := Cond.selects "EngineMonastery$House" yX3_carryOut yX3_carryOut) 129 (rfl) (rfl)⟩
abbrev mX10_errorPosition : MI := (yX10_errorPosition, cX10_errorPosition, 1, (some .int))
theorem kalX10_errorPosition : CalV mX10_errorPosition 0 := ⟨⟨inT6 (w := Cond.code yX10_errorPosition cX10_errorPosition 1 (some .int)) 147 (rfl) (rfl), inT1 (w := Cond.initialized "EngineMonastery") 1 (rfl) (rfl), by decide, by decide +kernel, by decide +kernel, by decide +kernel⟩, inT6 (w := Cond.instanceMethod yX10_errorPosition) 145 (rfl) (rfl), inT6 (w := Cond.selects "EngineMonastery" yX10_errorPosition yX10_errorPosition) 146 (rfl) (rfl)⟩
abbrev mX10_failedCommand : MI := (yX10_failedCommand, cX10_failedCommand, 1, (some .int))
theorem kalX10_failedCommand : CalV mX10_failedCommand 0 := ⟨⟨inT6 (w := Cond.code yX10_failedCommand cX10_failedCommand 1 (some .int)) 154 (rfl) (rfl), inT1 (w := Cond.initialized "EngineMonastery") 1 (rfl) (rfl), by decide, by decide +kernel, by decide +kernel, by decide +kernel⟩, inT6 (w := Cond.instanceMethod yX10_failedCommand) 152 (rfl) (rfl), inT6 (w := Cond.selects "EngineMonastery" yX10_failedCommand yX10_failedCommand) 153 (rfl) (rfl)⟩
abbrev mX10_describeEngine : MI := (yX10_describeEngine, cX10_describeEngine, 4, (some .int))
theorem kalX10_describeEngine : CalV mX10_describeEngine 1 := ⟨⟨inT6 (w := Cond.code yX10_describeEngine cX10_describeEngine 4 (some .int)) 161 (rfl) (rfl), inT1 (w := Cond.initialized "EngineMonastery") 1 (rfl) (rfl), by decide, by decide +kernel, by decide +kernel, by decide +kernel⟩, inT6 (w := Cond.instanceMethod yX10_describeEngine) 159 (rfl) (rfl), inT6 (w := Cond.selects "EngineMonastery" yX10_describeEngine yX10_describeEngine) 160 (rfl) (rfl)⟩
abbrev mX10_writePlace : MI := (yX10_writePlace, cX10_writePlace, 4, none)
theorem kalX10_writePlace : CalV mX10_writePlace 2 := ⟨⟨inT6 (w := Cond.code yX10_writePlace cX10_writePlace 4 none) 165 (rfl) (rfl), inT1 (w := Cond.initialized "EngineMonastery") 1 (rfl) (rfl), by decide, by decide +kernel, by decide +kernel, by decide +kernel⟩, inT6 (w := Cond.instanceMethod yX10_writePlace) 164 (rfl) (rfl), inWALL (w := Cond.selects "EngineMonastery" yX10_writePlace yX10_writePlace) 19 (by decide +kernel) (by decide +kernel)⟩
abbrev mX10_lineAt : MI := (yX10_lineAt, cX10_lineAt, 2, (some .char))
theorem kalX10_lineAt : CalV mX10_lineAt 1 := ⟨⟨inT6 (w := Cond.code yX10_lineAt cX10_lineAt 2 (some .char)) 172 (rfl) (rfl), inT1 (w := Cond.initialized "EngineMonastery") 1 (rfl) (rfl), by decide, by decide +kernel, by decide +kernel, by decide +kernel⟩, inT6 (w := Cond.instanceMethod yX10_lineAt) 170 (rfl) (rfl), inT6 (w := Cond.selects "EngineMonastery" yX10_lineAt yX10_lineAt) 171 (rfl) (rfl)⟩
abbrev mX10_meanOil : MI := (yX10_meanOil, cX10_meanOil, 2, (some .double))
theorem kalX10_meanOil : CalV mX10_meanOil 0 := ⟨⟨inT6 (w := Cond.code yX10_meanOil cX10_meanOil 2 (some .double)) 193 (rfl) (rfl), inT1 (w := Cond.initialized "EngineMonastery") 1 (rfl) (rfl), by decide, by decide +kernel, by decide +kernel, by decide +kernel⟩, inT6 (w := Cond.instanceMethod yX10_meanOil) 191 (rfl) (rfl), inT6 (w := Cond.selects "EngineMonastery" yX10_meanOil yX10_meanOil) 192 (rfl) (rfl)⟩
abbrev mX3_allCylinders : MI := (yX3_allCylinders, cX3_allCylinders, 3, (some .int))
theorem kalX3_allCylinders : CalV mX3_allCylinders 0 := ⟨⟨inT6 (w := Cond.code yX3_allCylinders cX3_allCylinders 3 (some .int)) 197 (rfl) (rfl), inT1 (w := Cond.initialized "EngineMonastery$House") 2 (rfl) (rfl), by decide, by decide +kernel, by decide +kernel, by decide +kernel⟩, inT6 (w := Cond.instanceMethod yX3_allCylinders) 195 (rfl) (rfl), inT6 (w := Cond.selects "EngineMonastery$House" yX3_allCylinders yX3_allCylinders) 196 (rfl) (rfl)⟩
abbrev mX10_undo : MI := (yX10_undo, cX10_undo, 1, (some .int))
theorem kalX10_undo : CalV mX10_undo 0 := ⟨⟨inT6 (w := Cond.code yX10_undo cX10_undo 1 (some .int)) 209 (rfl) (rfl), inT1 (w := Cond.initialized "EngineMonastery") 1 (rfl) (rfl), by decide, by decide +kernel, by decide +kernel, by decide +kernel⟩, inT6 (w := Cond.instanceMethod yX10_undo) 207 (rfl) (rfl), inT6 (w := Cond.selects "EngineMonastery" yX10_undo yX10_undo) 208 (rfl) (rfl)⟩
abbrev mX6_takeBack : MI := (yX6_takeBack, cX6_takeBack, 2, (some .int))
theorem kalX6_takeBack : CalV mX6_takeBack 1 := ⟨⟨inT6 (w := Cond.code yX6_takeBack cX6_takeBack 2 (some .int)) 213 (rfl) (rfl), inT1 (w := Cond.initialized "EngineMonastery$Past") 6 (rfl) (rfl), by decide, by decide +kernel, by decide +kernel, by decide +kernel⟩, inT6 (w := Cond.instanceMethod yX6_takeBack) 211 (rfl) (rfl), inT6 (w := Cond.selects "EngineMonastery$Past" yX6_takeBack yX6_takeBack) 212 (rfl) (rfl)⟩
abbrev mX10_restore : MI := (yX10_restore, cX10_restore, 1, (some .int))
theorem kalX10_restore : CalV mX10_restore 0 := ⟨⟨inT6 (w := Cond.code yX10_restore cX10_restore 1 (some .int)) 220 (rfl) (rfl), inT1 (w := Cond.initialized "EngineMonastery") 1 (rfl) (rfl), by decide, by decide +kernel, by decide +kernel, by decide +kernel⟩, inT6 (w := Cond.instanceMethod yX10_restore) 218 (rfl) (rfl), inT6 (w := Cond.selects "EngineMonastery" yX10_restore yX10_restore) 219 (rfl) (rfl)⟩
abbrev mX6_forget : MI := (yX6_forget, cX6_forget, 1, none)
theorem kalX6_forget : CalV mX6_forget 0 := ⟨⟨inT6 (w := Cond.code yX6_forget cX6_forget 1 none) 224 (rfl) (rfl), inT1 (w := Cond.initialized "EngineMonastery$Past") 6 (rfl) (rfl), by decide, by decide +kernel, by decide +kernel, by decide +kernel⟩, inT6 (w := Cond.instanceMethod yX6_forget) 222 (rfl) (rfl), inT6 (w := Cond.selects "EngineMonastery$Past" yX6_forget yX6_forget) 223 (rfl) (rfl)⟩
abbrev mX11_init : MI := (yX11_init, cX11_init, 1, none)
theorem kalX11_init : CalI mX11_init 0 := ⟨⟨inT6 (w := Cond.code yX11_init cX11_init 1 none) 229 (rfl) (rfl), inT1 (w := Cond.initialized "EngineMonasteryModel") 12 (rfl) (rfl), by decide, by decide +kernel, by decide +kernel, by decide +kernel⟩, rfl, inT6 (w := Cond.instanceMethod yX11_init) 228 (rfl) (rfl), rfl⟩
abbrev mX11_thrown : MI := (yX11_thrown, cX11_thrown, 1, (some .int))
theorem kalX11_thrown : CalV mX11_thrown 0 := ⟨⟨inT7 (w := Cond.code yX11_thrown cX11_thrown 1 (some .int)) 70 (rfl) (rfl), inT1 (w := Cond.initialized "EngineMonasteryModel") 12 (rfl) (rfl), by decide, by decide +kernel, by decide +kernel, by decide +kernel⟩, inT7 (w := Cond.instanceMethod yX11_thrown) 68 (rfl) (rfl), inT7 (w := Cond.selects "EngineMonasteryModel" yX11_thrown yX11_thrown) 69 (rfl) (rfl)⟩
abbrev mX11_addEngine : MI := (yX11_addEngine, cX11_addEngine, 2, (some .int))
theorem kalX11_addEngine : CalV mX11_addEngine 1 := ⟨⟨inT7 (w := Cond.code yX11_addEngine cX11_addEngine 2 (some .int)) 74 (rfl) (rfl), inT1 (w := Cond.initialized "EngineMonasteryModel") 12 (rfl) (rfl), by decide, by decide +kernel, by decide +kernel, by decide +kernel⟩, inT7 (w := Cond.instanceMethod yX11_addEngine) 72 (rfl) (rfl), inT7 (w := Cond.selects "EngineMonasteryModel" yX11_addEngine yX11_addEngine) 73 (rfl) (rfl)⟩
abbrev mX11_starts : MI := (yX11_starts, cX11_starts, 2, none)
theorem kalX11_starts : CalV mX11_starts 0 := ⟨⟨inT7 (w := Cond.code yX11_starts cX11_starts 2 none) 78 (rfl) (rfl), inT1 (w := Cond.initialized "EngineMonasteryModel") 12 (rfl) (rfl), by decide, by decide +kernel, by decide +kernel, by decide +kernel⟩, inT7 (w := Cond.instanceMethod yX11_starts) 77 (rfl) (rfl), inWALL (w := Cond.selects "EngineMonasteryModel" yX11_starts yX11_starts) 20 (by decide +kernel) (by decide +kernel)⟩
abbrev mX11_engineIt : MI := (yX11_engineIt, cX11_engineIt, 4, (some .int))
theorem kalX11_engineIt : CalV mX11_engineIt 1 := ⟨⟨inT7 (w := Cond.code yX11_engineIt cX11_engineIt 4 (some .int)) 82 (rfl) (rfl), inT1 (w := Cond.initialized "EngineMonasteryModel") 12 (rfl) (rfl), by decide, by decide +kernel, by decide +kernel, by decide +kernel⟩, inT7 (w := Cond.instanceMethod yX11_engineIt) 81 (rfl) (rfl), inWALL (w := Cond.selects "EngineMonasteryModel" yX11_engineIt yX11_engineIt) 21 (by decide +kernel) (by decide +kernel)⟩
abbrev mX11_in : MI := (yX11_in, cX11_in, 6, (some .boolean))
theorem kalX11_in : CalS mX11_in 3 := ⟨⟨inT7 (w := Cond.code yX11_in cX11_in 6 (some .boolean)) 87 (rfl) (rfl), inT1 (w := Cond.initialized "EngineMonasteryModel") 12 (rfl) (rfl), by decide, by decide +kernel, by decide +kernel, by decide +kernel⟩, inT7 (w := Cond.static yX11_in) 86 (rfl) (rfl)⟩
abbrev mX11_throwing : MI := (yX11_throwing, cX11_throwing, 2, (some .int))
theorem kalX11_throwing : CalV mX11_throwing 1 := ⟨⟨inT7 (w := Cond.code yX11_throwing cX11_throwing 2 (some .int)) 91 (rfl) (rfl), inT1 (w := Cond.initialized "EngineMonasteryModel") 12 (rfl) (rfl), by decide, by decide +kernel, by decide +kernel, by decide +kernel⟩, inT7 (w := Cond.instanceMethod yX11_throwing) 90 (rfl) (rfl), inWALL (w := Cond.selects "EngineMonasteryModel" yX11_throwing yX11_throwing) 22 (by decide +kernel) (by decide +kernel)⟩
abbrev mX11_engineAt : MI := (yX11_engineAt, cX11_engineAt, 1, (some .int))
theorem kalX11_engineAt : CalS mX11_engineAt 1 := ⟨⟨inT7 (w := Cond.code yX11_engineAt cX11_engineAt 1 (some .int)) 94 (rfl) (rfl), inT1 (w := Cond.initialized "EngineMonasteryModel") 12 (rfl) (rfl), by decide, by decide +kernel, by decide +kernel, by decide +kernel⟩, inT7 (w := Cond.static yX11_engineAt) 93 (rfl) (rfl)⟩
abbrev mX11_changed : MI := (yX11_changed, cX11_changed, 3, (some .int))
theorem kalX11_changed : CalV mX11_changed 1 := ⟨⟨inT7 (w := Cond.code yX11_changed cX11_changed 3 (some .int)) 98 (rfl) (rfl), inT1 (w := Cond.initialized "EngineMonasteryModel") 12 (rfl) (rfl), by decide, by decide +kernel, by decide +kernel, by decide +kernel⟩, inT7 (w := Cond.instanceMethod yX11_changed) 97 (rfl) (rfl), inWALL (w := Cond.selects "EngineMonasteryModel" yX11_changed yX11_changed) 23 (by decide +kernel) (by decide +kernel)⟩
abbrev mX11_exchange : MI := (yX11_exchange, cX11_exchange, 4, (some .int))
theorem kalX11_exchange : CalV mX11_exchange 3 := ⟨⟨inT7 (w := Cond.code yX11_exchange cX11_exchange 4 (some .int)) 102 (rfl) (rfl), inT1 (w := Cond.initialized "EngineMonasteryModel") 12 (rfl) (rfl), by decide, by decide +kernel, by decide +kernel, by decide +kernel⟩, inT7 (w := Cond.instanceMethod yX11_exchange) 100 (rfl) (rfl), inT7 (w := Cond.selects "EngineMonasteryModel" yX11_exchange yX11_exchange) 101 (rfl) (rfl)⟩
abbrev mX11_swapIt : MI := (yX11_swapIt, cX11_swapIt, 6, (some .int))
theorem kalX11_swapIt : CalV mX11_swapIt 3 := ⟨⟨inT7 (w := Cond.code yX11_swapIt cX11_swapIt 6 (some .int)) 106 (rfl) (rfl), inT1 (w := Cond.initialized "EngineMonasteryModel") 12 (rfl) (rfl), by decide, by decide +kernel, by decide +kernel, by decide +kernel⟩, inT7 (w := Cond.instanceMethod yX11_swapIt) 105 (rfl) (rfl), inWALL (w := Cond.selects "EngineMonasteryModel" yX11_swapIt yX11_swapIt) 24 (by decide +kernel) (by decide +kernel)⟩
abbrev mX11_isPart : MI := (yX11_isPart, cX11_isPart, 3, (some .boolean))
theorem kalX11_isPart : CalV mX11_isPart 2 := ⟨⟨inT7 (w := Cond.code yX11_isPart cX11_isPart 3 (some .boolean)) 110 (rfl) (rfl), inT1 (w := Cond.initialized "EngineMonasteryModel") 12 (rfl) (rfl), by decide, by decide +kernel, by decide +kernel, by decide +kernel⟩, inT7 (w := Cond.instanceMethod yX11_isPart) 109 (rfl) (rfl), inWALL (w := Cond.selects "EngineMonasteryModel" yX11_isPart yX11_isPart) 25 (by decide +kernel) (by decide +kernel)⟩
abbrev mX11_isEngine : MI := (yX11_isEngine, cX11_isEngine, 2, (some .boolean))
theorem kalX11_isEngine : CalV mX11_isEngine 1 := ⟨⟨inT7 (w := Cond.code yX11_isEngine cX11_isEngine 2 (some .boolean)) 114 (rfl) (rfl), inT1 (w := Cond.initialized "EngineMonasteryModel") 12 (rfl) (rfl), by decide, by decide +kernel, by decide +kernel, by decide +kernel⟩, inT7 (w := Cond.instanceMethod yX11_isEngine) 113 (rfl) (rfl), inWALL (w := Cond.selects "EngineMonasteryModel" yX11_isEngine yX11_isEngine) 26 (by decide +kernel) (by decide +kernel)⟩
abbrev mX11_many : MI := (yX11_many, cX11_many, 2, (some .int))
theorem kalX11_many : CalV mX11_many 1 := ⟨⟨inT7 (w := Cond.code yX11_many cX11_many 2 (some .int)) 118 (rfl) (rfl), inT1 (w := Cond.initialized "EngineMonasteryModel") 12 (rfl) (rfl), by decide, by decide +kernel, by decide +kernel, by decide +kernel⟩, inT7 (w := Cond.instanceMethod yX11_many) 117 (rfl) (rfl), inWALL (w := Cond.selects "EngineMonasteryModel" yX11_many yX11_many) 27 (by decide +kernel) (by decide +kernel)⟩
abbrev mX11_setRate : MI := (yX11_setRate, cX11_setRate, 3, (some .int))
theorem kalX11_setRate : CalV mX11_setRate 2 := ⟨⟨inT7 (w := Cond.code yX11_setRate cX11_setRate 3 (some .int)) 122 (rfl) (rfl), inT1 (w := Cond.initialized "EngineMonasteryModel") 12 (rfl) (rfl), by decide, by decide +kernel, by decide +kernel, by decide +kernel⟩, inT7 (w := Cond.instanceMethod yX11_setRate) 120 (rfl) (rfl), inT7 (w := Cond.selects "EngineMonasteryModel" yX11_setRate yX11_setRate) 121 (rfl) (rfl)⟩
abbrev mX11_rateIt : MI := (yX11_rateIt, cX11_rateIt, 4, (some .int))
theorem kalX11_rateIt : CalV mX11_rateIt 2 := ⟨⟨inT7 (w := Cond.code yX11_rateIt cX11_rateIt 4 (some .int)) 126 (rfl) (rfl), inT1 (w := Cond.initialized "EngineMonasteryModel") 12 (rfl) (rfl), by decide, by decide +kernel, by decide +kernel, by decide +kernel⟩, inT7 (w := Cond.instanceMethod yX11_rateIt) 125 (rfl) (rfl), inWALL (w := Cond.selects "EngineMonasteryModel" yX11_rateIt yX11_rateIt) 28 (by decide +kernel) (by decide +kernel)⟩
abbrev mX11_run : MI := (yX11_run, cX11_run, 3, (some .int))
theorem kalX11_run : CalV mX11_run 2 := ⟨⟨inT7 (w := Cond.code yX11_run cX11_run 3 (some .int)) 131 (rfl) (rfl), inT1 (w := Cond.initialized "EngineMonasteryModel") 12 (rfl) (rfl), by decide, by decide +kernel, by decide +kernel, by decide +kernel⟩, inT7 (w := Cond.instanceMethod yX11_run) 129 (rfl) (rfl), inT7 (w := Cond.selects "EngineMonasteryModel" yX11_run yX11_run) 130 (rfl) (rfl)⟩
abbrev mX11_runIt : MI := (yX11_runIt, cX11_runIt, 3, (some .int))
theorem kalX11_runIt : CalV mX11_runIt 2 := ⟨⟨inT7 (w := Cond.code yX11_runIt cX11_runIt 3 (some .int)) 135 (rfl) (rfl), inT1 (w := Cond.initialized "EngineMonasteryModel") 12 (rfl) (rfl), by decide, by decide +kernel, by decide +kernel, by decide +kernel⟩, inT7 (w := Cond.instanceMethod yX11_runIt) 134 (rfl) (rfl), inWALL (w := Cond.selects "EngineMonasteryModel" yX11_runIt yX11_runIt) 29 (by decide +kernel) (by decide +kernel)⟩
abbrev mX11_strokes : MI := (yX11_strokes, cX11_strokes, 7, (some .int))
theorem kalX11_strokes : CalV mX11_strokes 2 := ⟨⟨inT7 (w := Cond.code yX11_strokes cX11_strokes 7 (some .int)) 140 (rfl) (rfl), inT1 (w := Cond.initialized "EngineMonasteryModel") 12 (rfl) (rfl), by decide, by decide +kernel, by decide +kernel, by decide +kernel⟩, inT7 (w := Cond.instanceMethod yX11_strokes) 139 (rfl) (rfl), inWALL (w := Cond.selects "EngineMonasteryModel" yX11_strokes yX11_strokes) 30 (by decide +kernel) (by decide +kernel)⟩
abbrev mX11_order : MI := (yX11_order, cX11_order, 3, (some .int))
theorem kalX11_order : CalV mX11_order 2 := ⟨⟨inT7 (w := Cond.code yX11_order cX11_order 3 (some .int)) 144 (rfl) (rfl), inT1 (w := Cond.initialized "EngineMonasteryModel") 12 (rfl) (rfl), by decide, by decide +kernel, by decide +kernel, by decide +kernel⟩, inT7 (w := Cond.instanceMethod yX11_order) 143 (rfl) (rfl), inWALL (w := Cond.selects "EngineMonasteryModel" yX11_order yX11_order) 31 (by decide +kernel) (by decide +kernel)⟩
abbrev mX11_keepsKnock : MI := (yX11_keepsKnock, cX11_keepsKnock, 5, none)
theorem kalX11_keepsKnock : CalV mX11_keepsKnock 2 := ⟨⟨inT7 (w := Cond.code yX11_keepsKnock cX11_keepsKnock 5 none) 148 (rfl) (rfl), inT1 (w := Cond.initialized "EngineMonasteryModel") 12 (rfl) (rfl), by decide, by decide +kernel, by decide +kernel, by decide +kernel⟩, inT7 (w := Cond.instanceMethod yX11_keepsKnock) 147 (rfl) (rfl), inWALL (w := Cond.selects "EngineMonasteryModel" yX11_keepsKnock yX11_keepsKnock) 32 (by decide +kernel) (by decide +kernel)⟩
abbrev mX11_keepsHour : MI := (yX11_keepsHour, cX11_keepsHour, 3, none)
theorem kalX11_keepsHour : CalV mX11_keepsHour 0 := ⟨⟨inT7 (w := Cond.code yX11_keepsHour cX11_keepsHour 3 none) 152 (rfl) (rfl), inT1 (w := Cond.initialized "EngineMonasteryModel") 12 (rfl) (rfl), by decide, by decide +kernel, by decide +kernel, by decide +kernel⟩, inT7 (w := Cond.instanceMethod yX11_keepsHour) 151 (rfl) (rfl), inWALL (w := Cond.selects "EngineMonasteryModel" yX11_keepsHour yX11_keepsHour) 33 (by decide +kernel) (by decide +kernel)⟩
abbrev mX11_oil : MI := (yX11_oil, cX11_oil, 4, (some .int))
theorem kalX11_oil : CalV mX11_oil 3 := ⟨⟨inT7 (w := Cond.code yX11_oil cX11_oil 4 (some .int)) 156 (rfl) (rfl), inT1 (w := Cond.initialized "EngineMonasteryModel") 12 (rfl) (rfl), by decide, by decide +kernel, by decide +kernel, by decide +kernel⟩, inT7 (w := Cond.instanceMethod yX11_oil) 154 (rfl) (rfl), inT7 (w := Cond.selects "EngineMonasteryModel" yX11_oil yX11_oil) 155 (rfl) (rfl)⟩
abbrev mX11_oilIt : MI := (yX11_oilIt, cX11_oilIt, 4, (some .int))
theorem kalX11_oilIt : CalV mX11_oilIt 3 := ⟨⟨inT7 (w := Cond.code yX11_oilIt cX11_oilIt 4 (some .int)) 160 (rfl) (rfl), inT1 (w := Cond.initialized "EngineMonasteryModel") 12 (rfl) (rfl), by decide, by decide +kernel, by decide +kernel, by decide +kernel⟩, inT7 (w := Cond.instanceMethod yX11_oilIt) 159 (rfl) (rfl), inWALL (w := Cond.selects "EngineMonasteryModel" yX11_oilIt yX11_oilIt) 34 (by decide +kernel) (by decide +kernel)⟩
abbrev mX11_oilDriest : MI := (yX11_oilDriest, cX11_oilDriest, 2, (some .int))
theorem kalX11_oilDriest : CalV mX11_oilDriest 1 := ⟨⟨inT7 (w := Cond.code yX11_oilDriest cX11_oilDriest 2 (some .int)) 164 (rfl) (rfl), inT1 (w := Cond.initialized "EngineMonasteryModel") 12 (rfl) (rfl), by decide, by decide +kernel, by decide +kernel, by decide +kernel⟩, inT7 (w := Cond.instanceMethod yX11_oilDriest) 162 (rfl) (rfl), inT7 (w := Cond.selects "EngineMonasteryModel" yX11_oilDriest yX11_oilDriest) 163 (rfl) (rfl)⟩
abbrev mX11_fillIt : MI := (yX11_fillIt, cX11_fillIt, 3, (some .int))
theorem kalX11_fillIt : CalV mX11_fillIt 1 := ⟨⟨inT7 (w := Cond.code yX11_fillIt cX11_fillIt 3 (some .int)) 168 (rfl) (rfl), inT1 (w := Cond.initialized "EngineMonasteryModel") 12 (rfl) (rfl), by decide, by decide +kernel, by decide +kernel, by decide +kernel⟩, inT7 (w := Cond.instanceMethod yX11_fillIt) 167 (rfl) (rfl), inWALL (w := Cond.selects "EngineMonasteryModel" yX11_fillIt yX11_fillIt) 35 (by decide +kernel) (by decide +kernel)⟩
abbrev mX11_least : MI := (yX11_least, cX11_least, 3, (some .int))
theorem kalX11_least : CalV mX11_least 1 := ⟨⟨inT7 (w := Cond.code yX11_least cX11_least 3 (some .int)) 172 (rfl) (rfl), inT1 (w := Cond.initialized "EngineMonasteryModel") 12 (rfl) (rfl), by decide, by decide +kernel, by decide +kernel, by decide +kernel⟩, inT7 (w := Cond.instanceMethod yX11_least) 171 (rfl) (rfl), inWALL (w := Cond.selects "EngineMonasteryModel" yX11_least yX11_least) 36 (by decide +kernel) (by decide +kernel)⟩
abbrev mX11_takesOils : MI := (yX11_takesOils, cX11_takesOils, 3, none)
theorem kalX11_takesOils : CalV mX11_takesOils 0 := ⟨⟨inT7 (w := Cond.code yX11_takesOils cX11_takesOils 3 none) 176 (rfl) (rfl), inT1 (w := Cond.initialized "EngineMonasteryModel") 12 (rfl) (rfl), by decide, by decide +kernel, by decide +kernel, by decide +kernel⟩, inT7 (w := Cond.instanceMethod yX11_takesOils) 175 (rfl) (rfl), inWALL (w := Cond.selects "EngineMonasteryModel" yX11_takesOils yX11_takesOils) 37 (by decide +kernel) (by decide +kernel)⟩
abbrev mX11_driest : MI := (yX11_driest, cX11_driest, 3, (some .int))
theorem kalX11_driest : CalV mX11_driest 0 := ⟨⟨inT7 (w := Cond.code yX11_driest cX11_driest 3 (some .int)) 180 (rfl) (rfl), inT1 (w := Cond.initialized "EngineMonasteryModel") 12 (rfl) (rfl), by decide, by decide +kernel, by decide +kernel, by decide +kernel⟩, inT7 (w := Cond.instanceMethod yX11_driest) 179 (rfl) (rfl), inWALL (w := Cond.selects "EngineMonasteryModel" yX11_driest yX11_driest) 38 (by decide +kernel) (by decide +kernel)⟩
abbrev mX11_bringsOils : MI := (yX11_bringsOils, cX11_bringsOils, 4, none)
theorem kalX11_bringsOils : CalV mX11_bringsOils 0 := ⟨⟨inT7 (w := Cond.code yX11_bringsOils cX11_bringsOils 4 none) 184 (rfl) (rfl), inT1 (w := Cond.initialized "EngineMonasteryModel") 12 (rfl) (rfl), by decide, by decide +kernel, by decide +kernel, by decide +kernel⟩, inT7 (w := Cond.instanceMethod yX11_bringsOils) 183 (rfl) (rfl), inWALL (w := Cond.selects "EngineMonasteryModel" yX11_bringsOils yX11_bringsOils) 39 (by decide +kernel) (by decide +kernel)⟩
abbrev mX11_buyOil : MI := (yX11_buyOil, cX11_buyOil, 2, (some .int))
theorem kalX11_buyOil : CalV mX11_buyOil 1 := ⟨⟨inT7 (w := Cond.code yX11_buyOil cX11_buyOil 2 (some .int)) 188 (rfl) (rfl), inT1 (w := Cond.initialized "EngineMonasteryModel") 12 (rfl) (rfl), by decide, by decide +kernel, by decide +kernel, by decide +kernel⟩, inT7 (w := Cond.instanceMethod yX11_buyOil) 186 (rfl) (rfl), inT7 (w := Cond.selects "EngineMonasteryModel" yX11_buyOil yX11_buyOil) 187 (rfl) (rfl)⟩
abbrev mX11_buyIt : MI := (yX11_buyIt, cX11_buyIt, 2, (some .int))
theorem kalX11_buyIt : CalV mX11_buyIt 1 := ⟨⟨inT7 (w := Cond.code yX11_buyIt cX11_buyIt 2 (some .int)) 192 (rfl) (rfl), inT1 (w := Cond.initialized "EngineMonasteryModel") 12 (rfl) (rfl), by decide, by decide +kernel, by decide +kernel, by decide +kernel⟩, inT7 (w := Cond.instanceMethod yX11_buyIt) 191 (rfl) (rfl), inWALL (w := Cond.selects "EngineMonasteryModel" yX11_buyIt yX11_buyIt) 40 (by decide +kernel) (by decide +kernel)⟩
abbrev mX11_addMonk : MI := (yX11_addMonk, cX11_addMonk, 1, (some .int))
theorem kalX11_addMonk : CalV mX11_addMonk 0 := ⟨⟨inT7 (w := Cond.code yX11_addMonk cX11_addMonk 1 (some .int)) 196 (rfl) (rfl), inT1 (w := Cond.initialized "EngineMonasteryModel") 12 (rfl) (rfl), by decide, by decide +kernel, by decide +kernel, by decide +kernel⟩, inT7 (w := Cond.instanceMethod yX11_addMonk) 194 (rfl) (rfl), inT7 (w := Cond.selects "EngineMonasteryModel" yX11_addMonk yX11_addMonk) 195 (rfl) (rfl)⟩
abbrev mX11_monkIt : MI := (yX11_monkIt, cX11_monkIt, 1, (some .int))
theorem kalX11_monkIt : CalV mX11_monkIt 0 := ⟨⟨inT7 (w := Cond.code yX11_monkIt cX11_monkIt 1 (some .int)) 200 (rfl) (rfl), inT1 (w := Cond.initialized "EngineMonasteryModel") 12 (rfl) (rfl), by decide, by decide +kernel, by decide +kernel, by decide +kernel⟩, inT7 (w := Cond.instanceMethod yX11_monkIt) 199 (rfl) (rfl), inWALL (w := Cond.selects "EngineMonasteryModel" yX11_monkIt yX11_monkIt) 41 (by decide +kernel) (by decide +kernel)⟩
abbrev mX11_setAble : MI := (yX11_setAble, cX11_setAble, 5, (some .boolean))
theorem kalX11_setAble : CalV mX11_setAble 3 := ⟨⟨inT7 (w := Cond.code yX11_setAble cX11_setAble 5 (some .boolean)) 204 (rfl) (rfl), inT1 (w := Cond.initialized "EngineMonasteryModel") 12 (rfl) (rfl), by decide, by decide +kernel, by decide +kernel, by decide +kernel⟩, inT7 (w := Cond.instanceMethod yX11_setAble) 202 (rfl) (rfl), inT7 (w := Cond.selects "EngineMonasteryModel" yX11_setAble yX11_setAble) 203 (rfl) (rfl)⟩
abbrev mX11_ableIt : MI := (yX11_ableIt, cX11_ableIt, 5, (some .int))
theorem kalX11_ableIt : CalV mX11_ableIt 3 := ⟨⟨inT7 (w := Cond.code yX11_ableIt cX11_ableIt 5 (some .int)) 208 (rfl) (rfl), inT1 (w := Cond.initialized "EngineMonasteryModel") 12 (rfl) (rfl), by decide, by decide +kernel, by decide +kernel, by decide +kernel⟩, inT7 (w := Cond.instanceMethod yX11_ableIt) 207 (rfl) (rfl), inWALL (w := Cond.selects "EngineMonasteryModel" yX11_ableIt yX11_ableIt) 42 (by decide +kernel) (by decide +kernel)⟩
abbrev mX11_addRepair : MI := (yX11_addRepair, cX11_addRepair, 4, (some .int))
theorem kalX11_addRepair : CalV mX11_addRepair 3 := ⟨⟨inT7 (w := Cond.code yX11_addRepair cX11_addRepair 4 (some .int)) 213 (rfl) (rfl), inT1 (w := Cond.initialized "EngineMonasteryModel") 12 (rfl) (rfl), by decide, by decide +kernel, by decide +kernel, by decide +kernel⟩, inT7 (w := Cond.instanceMethod yX11_addRepair) 211 (rfl) (rfl), inT7 (w := Cond.selects "EngineMonasteryModel" yX11_addRepair yX11_addRepair) 212 (rfl) (rfl)⟩
abbrev mX11_mendIt : MI := (yX11_mendIt, cX11_mendIt, 5, (some .int))
theorem kalX11_mendIt : CalV mX11_mendIt 3 := ⟨⟨inT7 (w := Cond.code yX11_mendIt cX11_mendIt 5 (some .int)) 217 (rfl) (rfl), inT1 (w := Cond.initialized "EngineMonasteryModel") 12 (rfl) (rfl), by decide, by decide +kernel, by decide +kernel, by decide +kernel⟩, inT7 (w := Cond.instanceMethod yX11_mendIt) 216 (rfl) (rfl), inWALL (w := Cond.selects "EngineMonasteryModel" yX11_mendIt yX11_mendIt) 43 (by decide +kernel) (by decide +kernel)⟩
abbrev mX11_removeRepair : MI := (yX11_removeRepair, cX11_removeRepair, 2, (some .int))
theorem kalX11_removeRepair : CalV mX11_removeRepair 1 := ⟨⟨inT7 (w := Cond.code yX11_removeRepair cX11_removeRepair 2 (some .int)) 221 (rfl) (rfl), inT1 (w := Cond.initialized "EngineMonasteryModel") 12 (rfl) (rfl), by decide, by decide +kernel, by decide +kernel, by decide +kernel⟩, inT7 (w := Cond.instanceMethod yX11_removeRepair) 219 (rfl) (rfl), inT7 (w := Cond.selects "EngineMonasteryModel" yX11_removeRepair yX11_removeRepair) 220 (rfl) (rfl)⟩
abbrev mX11_dropsRepair : MI := (yX11_dropsRepair, cX11_dropsRepair, 3, none)
theorem kalX11_dropsRepair : CalV mX11_dropsRepair 1 := ⟨⟨inT7 (w := Cond.code yX11_dropsRepair cX11_dropsRepair 3 none) 225 (rfl) (rfl), inT1 (w := Cond.initialized "EngineMonasteryModel") 12 (rfl) (rfl), by decide, by decide +kernel, by decide +kernel, by decide +kernel⟩, inT7 (w := Cond.instanceMethod yX11_dropsRepair) 224 (rfl) (rfl), inWALL (w := Cond.selects "EngineMonasteryModel" yX11_dropsRepair yX11_dropsRepair) 44 (by decide +kernel) (by decide +kernel)⟩
abbrev mX11_repair : MI := (yX11_repair, cX11_repair, 1, (some .int))
theorem kalX11_repair : CalV mX11_repair 0 := ⟨⟨inT7 (w := Cond.code yX11_repair cX11_repair 1 (some .int)) 229 (rfl) (rfl), inT1 (w := Cond.initialized "EngineMonasteryModel") 12 (rfl) (rfl), by decide, by decide +kernel, by decide +kernel, by decide +kernel⟩, inT7 (w := Cond.instanceMethod yX11_repair) 227 (rfl) (rfl), inT7 (w := Cond.selects "EngineMonasteryModel" yX11_repair yX11_repair) 228 (rfl) (rfl)⟩
abbrev mX11_repairIt : MI := (yX11_repairIt, cX11_repairIt, 5, (some .int))
theorem kalX11_repairIt : CalV mX11_repairIt 0 := ⟨⟨inT7 (w := Cond.code yX11_repairIt cX11_repairIt 5 (some .int)) 233 (rfl) (rfl), inT1 (w := Cond.initialized "EngineMonasteryModel") 12 (rfl) (rfl), by decide, by decide +kernel, by decide +kernel, by decide +kernel⟩, inT7 (w := Cond.instanceMethod yX11_repairIt) 232 (rfl) (rfl), inWALL (w := Cond.selects "EngineMonasteryModel" yX11_repairIt yX11_repairIt) 45 (by decide +kernel) (by decide +kernel)⟩
abbrev mX11_isSooner : MI := (yX11_isSooner, cX11_isSooner, 4, (some .boolean))
theorem kalX11_isSooner : CalV mX11_isSooner 2 := ⟨⟨inT7 (w := Cond.code yX11_isSooner cX11_isSooner 4 (some .boolean)) 237 (rfl) (rfl), inT1 (w := Cond.initialized "EngineMonasteryModel") 12 (rfl) (rfl), by decide, by decide +kernel, by decide +kernel, by decide +kernel⟩, inT7 (w := Cond.instanceMethod yX11_isSooner) 236 (rfl) (rfl), inWALL (w := Cond.selects "EngineMonasteryModel" yX11_isSooner yX11_isSooner) 46 (by decide +kernel) (by decide +kernel)⟩
abbrev mX11_repairAt : MI := (yX11_repairAt, cX11_repairAt, 3, (some .int))
theorem kalX11_repairAt : CalV mX11_repairAt 2 := ⟨⟨inT8 (w := Cond.code yX11_repairAt cX11_repairAt 3 (some .int)) 1 (rfl) (rfl), inT1 (w := Cond.initialized "EngineMonasteryModel") 12 (rfl) (rfl), by decide, by decide +kernel, by decide +kernel, by decide +kernel⟩, inT8 (w := Cond.instanceMethod yX11_repairAt) 0 (rfl) (rfl), inWALL (w := Cond.selects "EngineMonasteryModel" yX11_repairAt yX11_repairAt) 47 (by decide +kernel) (by decide +kernel)⟩
abbrev mX11_passesHours : MI := (yX11_passesHours, cX11_passesHours, 5, (some .int))
theorem kalX11_passesHours : CalV mX11_passesHours 1 := ⟨⟨inT8 (w := Cond.code yX11_passesHours cX11_passesHours 5 (some .int)) 5 (rfl) (rfl), inT1 (w := Cond.initialized "EngineMonasteryModel") 12 (rfl) (rfl), by decide, by decide +kernel, by decide +kernel, by decide +kernel⟩, inT8 (w := Cond.instanceMethod yX11_passesHours) 4 (rfl) (rfl), inWALL (w := Cond.selects "EngineMonasteryModel" yX11_passesHours yX11_passesHours) 48 (by decide +kernel) (by decide +kernel)⟩
abbrev mX11_pass : MI := (yX11_pass, cX11_pass, 2, (some .int))
theorem kalX11_pass : CalV mX11_pass 1 := ⟨⟨inT8 (w := Cond.code yX11_pass cX11_pass 2 (some .int)) 9 (rfl) (rfl), inT1 (w := Cond.initialized "EngineMonasteryModel") 12 (rfl) (rfl), by decide, by decide +kernel, by decide +kernel, by decide +kernel⟩, inT8 (w := Cond.instanceMethod yX11_pass) 7 (rfl) (rfl), inT8 (w := Cond.selects "EngineMonasteryModel" yX11_pass yX11_pass) 8 (rfl) (rfl)⟩
abbrev mX11_passIt : MI := (yX11_passIt, cX11_passIt, 2, (some .int))
theorem kalX11_passIt : CalV mX11_passIt 1 := ⟨⟨inT8 (w := Cond.code yX11_passIt cX11_passIt 2 (some .int)) 13 (rfl) (rfl), inT1 (w := Cond.initialized "EngineMonasteryModel") 12 (rfl) (rfl), by decide, by decide +kernel, by decide +kernel, by decide +kernel⟩, inT8 (w := Cond.instanceMethod yX11_passIt) 12 (rfl) (rfl), inWALL (w := Cond.selects "EngineMonasteryModel" yX11_passIt yX11_passIt) 49 (by decide +kernel) (by decide +kernel)⟩
abbrev mX11_engineCount : MI := (yX11_engineCount, cX11_engineCount, 1, (some .int))
theorem kalX11_engineCount : CalV mX11_engineCount 0 := ⟨⟨inT8 (w := Cond.code yX11_engineCount cX11_engineCount 1 (some .int)) 18 (rfl) (rfl), inT1 (w := Cond.initialized "EngineMonasteryModel") 12 (rfl) (rfl), by decide, by decide +kernel, by decide +kernel, by decide +kernel⟩, inT8 (w := Cond.instanceMethod yX11_engineCount) 16 (rfl) (rfl), inT8 (w := Cond.selects "EngineMonasteryModel" yX11_engineCount yX11_engineCount) 17 (rfl) (rfl)⟩
abbrev mX11_cylinderCount : MI := (yX11_cylinderCount, cX11_cylinderCount, 2, (some .int))
theorem kalX11_cylinderCount : CalV mX11_cylinderCount 1 := ⟨⟨inT8 (w := Cond.code yX11_cylinderCount cX11_cylinderCount 2 (some .int)) 22 (rfl) (rfl), inT1 (w := Cond.initialized "EngineMonasteryModel") 12 (rfl) (rfl), by decide, by decide +kernel, by decide +kernel, by decide +kernel⟩, inT8 (w := Cond.instanceMethod yX11_cylinderCount) 20 (rfl) (rfl), inT8 (w := Cond.selects "EngineMonasteryModel" yX11_cylinderCount yX11_cylinderCount) 21 (rfl) (rfl)⟩
abbrev mX11_orderAt : MI := (yX11_orderAt, cX11_orderAt, 3, (some .int))
theorem kalX11_orderAt : CalV mX11_orderAt 2 := ⟨⟨inT8 (w := Cond.code yX11_orderAt cX11_orderAt 3 (some .int)) 26 (rfl) (rfl), inT1 (w := Cond.initialized "EngineMonasteryModel") 12 (rfl) (rfl), by decide, by decide +kernel, by decide +kernel, by decide +kernel⟩, inT8 (w := Cond.instanceMethod yX11_orderAt) 24 (rfl) (rfl), inT8 (w := Cond.selects "EngineMonasteryModel" yX11_orderAt yX11_orderAt) 25 (rfl) (rfl)⟩
abbrev mX11_dueAfter : MI := (yX11_dueAfter, cX11_dueAfter, 3, (some .int))
theorem kalX11_dueAfter : CalV mX11_dueAfter 2 := ⟨⟨inT8 (w := Cond.code yX11_dueAfter cX11_dueAfter 3 (some .int)) 30 (rfl) (rfl), inT1 (w := Cond.initialized "EngineMonasteryModel") 12 (rfl) (rfl), by decide, by decide +kernel, by decide +kernel, by decide +kernel⟩, inT8 (w := Cond.instanceMethod yX11_dueAfter) 28 (rfl) (rfl), inT8 (w := Cond.selects "EngineMonasteryModel" yX11_dueAfter yX11_dueAfter) 29 (rfl) (rfl)⟩
abbrev mX11_dueAfterByStrokes : MI := (yX11_dueAfterByStrokes, cX11_dueAfterByStrokes, 3, (some .int))
theorem kalX11_dueAfterByStrokes : CalV mX11_dueAfterByStrokes 2 := ⟨⟨inT8 (w := Cond.code yX11_dueAfterByStrokes cX11_dueAfterByStrokes 3 (some .int)) 35 (rfl) (rfl), inT1 (w := Cond.initialized "EngineMonasteryModel") 12 (rfl) (rfl), by decide, by decide +kernel, by decide +kernel, by decide +kernel⟩, inT8 (w := Cond.instanceMethod yX11_dueAfterByStrokes) 33 (rfl) (rfl), inT8 (w := Cond.selects "EngineMonasteryModel" yX11_dueAfterByStrokes yX11_dueAfterByStrokes) 34 (rfl) (rfl)⟩
abbrev mX11_turnOf : MI := (yX11_turnOf, cX11_turnOf, 5, (some .int))
theorem kalX11_turnOf : CalV mX11_turnOf 1 := ⟨⟨inT8 (w := Cond.code yX11_turnOf cX11_turnOf 5 (some .int)) 40 (rfl) (rfl), inT1 (w := Cond.initialized "EngineMonasteryModel") 12 (rfl) (rfl), by decide, by decide +kernel, by decide +kernel, by decide +kernel⟩, inT8 (w := Cond.instanceMethod yX11_turnOf) 38 (rfl) (rfl), inT8 (w := Cond.selects "EngineMonasteryModel" yX11_turnOf yX11_turnOf) 39 (rfl) (rfl)⟩
abbrev mX11_cycle : MI := (yX11_cycle, cX11_cycle, 5, (some .int))
theorem kalX11_cycle : CalV mX11_cycle 2 := ⟨⟨inT8 (w := Cond.code yX11_cycle cX11_cycle 5 (some .int)) 44 (rfl) (rfl), inT1 (w := Cond.initialized "EngineMonasteryModel") 12 (rfl) (rfl), by decide, by decide +kernel, by decide +kernel, by decide +kernel⟩, inT8 (w := Cond.instanceMethod yX11_cycle) 43 (rfl) (rfl), inWALL (w := Cond.selects "EngineMonasteryModel" yX11_cycle yX11_cycle) 50 (by decide +kernel) (by decide +kernel)⟩
abbrev mX11_turnByRepeating : MI := (yX11_turnByRepeating, cX11_turnByRepeating, 2, (some .int))
theorem kalX11_turnByRepeating : CalV mX11_turnByRepeating 1 := ⟨⟨inT8 (w := Cond.code yX11_turnByRepeating cX11_turnByRepeating 2 (some .int)) 48 (rfl) (rfl), inT1 (w := Cond.initialized "EngineMonasteryModel") 12 (rfl) (rfl), by decide, by decide +kernel, by decide +kernel, by decide +kernel⟩, inT8 (w := Cond.instanceMethod yX11_turnByRepeating) 46 (rfl) (rfl), inT8 (w := Cond.selects "EngineMonasteryModel" yX11_turnByRepeating yX11_turnByRepeating) 47 (rfl) (rfl)⟩
abbrev mX11_evenness : MI := (yX11_evenness, cX11_evenness, 5, (some .int))
theorem kalX11_evenness : CalV mX11_evenness 1 := ⟨⟨inT8 (w := Cond.code yX11_evenness cX11_evenness 5 (some .int)) 53 (rfl) (rfl), inT1 (w := Cond.initialized "EngineMonasteryModel") 12 (rfl) (rfl), by decide, by decide +kernel, by decide +kernel, by decide +kernel⟩, inT8 (w := Cond.instanceMethod yX11_evenness) 51 (rfl) (rfl), inT8 (w := Cond.selects "EngineMonasteryModel" yX11_evenness yX11_evenness) 52 (rfl) (rfl)⟩
abbrev mX11_far : MI := (yX11_far, cX11_far, 4, (some .int))
theorem kalX11_far : CalS mX11_far 3 := ⟨⟨inT8 (w := Cond.code yX11_far cX11_far 4 (some .int)) 56 (rfl) (rfl), inT1 (w := Cond.initialized "EngineMonasteryModel") 12 (rfl) (rfl), by decide, by decide +kernel, by decide +kernel, by decide +kernel⟩, inT8 (w := Cond.static yX11_far) 55 (rfl) (rfl)⟩
abbrev mX11_evenOrders : MI := (yX11_evenOrders, cX11_evenOrders, 7, (some .int))
theorem kalX11_evenOrders : CalV mX11_evenOrders 2 := ⟨⟨inT8 (w := Cond.code yX11_evenOrders cX11_evenOrders 7 (some .int)) 62 (rfl) (rfl), inT1 (w := Cond.initialized "EngineMonasteryModel") 12 (rfl) (rfl), by decide, by decide +kernel, by decide +kernel, by decide +kernel⟩, inT8 (w := Cond.instanceMethod yX11_evenOrders) 60 (rfl) (rfl), inT8 (w := Cond.selects "EngineMonasteryModel" yX11_evenOrders yX11_evenOrders) 61 (rfl) (rfl)⟩
abbrev mX11_evenOrdersByTrying : MI := (yX11_evenOrdersByTrying, cX11_evenOrdersByTrying, 3, (some .int))
theorem kalX11_evenOrdersByTrying : CalV mX11_evenOrdersByTrying 2 := ⟨⟨inT8 (w := Cond.code yX11_evenOrdersByTrying cX11_evenOrdersByTrying 3 (some .int)) 67 (rfl) (rfl), inT1 (w := Cond.initialized "EngineMonasteryModel") 12 (rfl) (rfl), by decide, by decide +kernel, by decide +kernel, by decide +kernel⟩, inT8 (w := Cond.instanceMethod yX11_evenOrdersByTrying) 65 (rfl) (rfl), inT8 (w := Cond.selects "EngineMonasteryModel" yX11_evenOrdersByTrying yX11_evenOrdersByTrying) 66 (rfl) (rfl)⟩
abbrev mX11_leastOilAfter : MI := (yX11_leastOilAfter, cX11_leastOilAfter, 2, (some .int))
theorem kalX11_leastOilAfter : CalV mX11_leastOilAfter 1 := ⟨⟨inT8 (w := Cond.code yX11_leastOilAfter cX11_leastOilAfter 2 (some .int)) 72 (rfl) (rfl), inT1 (w := Cond.initialized "EngineMonasteryModel") 12 (rfl) (rfl), by decide, by decide +kernel, by decide +kernel, by decide +kernel⟩, inT8 (w := Cond.instanceMethod yX11_leastOilAfter) 70 (rfl) (rfl), inT8 (w := Cond.selects "EngineMonasteryModel" yX11_leastOilAfter yX11_leastOilAfter) 71 (rfl) (rfl)⟩
abbrev mX11_leastOilAfterByGiving : MI := (yX11_leastOilAfterByGiving, cX11_leastOilAfterByGiving, 2, (some .int))
theorem kalX11_leastOilAfterByGiving : CalV mX11_leastOilAfterByGiving 1 := ⟨⟨inT8 (w := Cond.code yX11_leastOilAfterByGiving cX11_leastOilAfterByGiving 2 (some .int)) 77 (rfl) (rfl), inT1 (w := Cond.initialized "EngineMonasteryModel") 12 (rfl) (rfl), by decide, by decide +kernel, by decide +kernel, by decide +kernel⟩, inT8 (w := Cond.instanceMethod yX11_leastOilAfterByGiving) 75 (rfl) (rfl), inT8 (w := Cond.selects "EngineMonasteryModel" yX11_leastOilAfterByGiving yX11_leastOilAfterByGiving) 76 (rfl) (rfl)⟩
abbrev mX11_oilOf : MI := (yX11_oilOf, cX11_oilOf, 3, (some .int))
theorem kalX11_oilOf : CalV mX11_oilOf 2 := ⟨⟨inT8 (w := Cond.code yX11_oilOf cX11_oilOf 3 (some .int)) 82 (rfl) (rfl), inT1 (w := Cond.initialized "EngineMonasteryModel") 12 (rfl) (rfl), by decide, by decide +kernel, by decide +kernel, by decide +kernel⟩, inT8 (w := Cond.instanceMethod yX11_oilOf) 80 (rfl) (rfl), inT8 (w := Cond.selects "EngineMonasteryModel" yX11_oilOf yX11_oilOf) 81 (rfl) (rfl)⟩
abbrev mX11_ofCylinder : MI := (yX11_ofCylinder, cX11_ofCylinder, 4, (some .int))
theorem kalX11_ofCylinder : CalV mX11_ofCylinder 3 := ⟨⟨inT8 (w := Cond.code yX11_ofCylinder cX11_ofCylinder 4 (some .int)) 86 (rfl) (rfl), inT1 (w := Cond.initialized "EngineMonasteryModel") 12 (rfl) (rfl), by decide, by decide +kernel, by decide +kernel, by decide +kernel⟩, inT8 (w := Cond.instanceMethod yX11_ofCylinder) 85 (rfl) (rfl), inWALL (w := Cond.selects "EngineMonasteryModel" yX11_ofCylinder yX11_ofCylinder) 51 (by decide +kernel) (by decide +kernel)⟩
abbrev mX11_wearOf : MI := (yX11_wearOf, cX11_wearOf, 3, (some .int))
theorem kalX11_wearOf : CalV mX11_wearOf 2 := ⟨⟨inT8 (w := Cond.code yX11_wearOf cX11_wearOf 3 (some .int)) 90 (rfl) (rfl), inT1 (w := Cond.initialized "EngineMonasteryModel") 12 (rfl) (rfl), by decide, by decide +kernel, by decide +kernel, by decide +kernel⟩, inT8 (w := Cond.instanceMethod yX11_wearOf) 88 (rfl) (rfl), inT8 (w := Cond.selects "EngineMonasteryModel" yX11_wearOf yX11_wearOf) 89 (rfl) (rfl)⟩
abbrev mX11_allOil : MI := (yX11_allOil, cX11_allOil, 1, (some .int))
theorem kalX11_allOil : CalV mX11_allOil 0 := ⟨⟨inT8 (w := Cond.code yX11_allOil cX11_allOil 1 (some .int)) 94 (rfl) (rfl), inT1 (w := Cond.initialized "EngineMonasteryModel") 12 (rfl) (rfl), by decide, by decide +kernel, by decide +kernel, by decide +kernel⟩, inT8 (w := Cond.instanceMethod yX11_allOil) 92 (rfl) (rfl), inT8 (w := Cond.selects "EngineMonasteryModel" yX11_allOil yX11_allOil) 93 (rfl) (rfl)⟩
abbrev mX11_inEngines : MI := (yX11_inEngines, cX11_inEngines, 3, (some .int))
theorem kalX11_inEngines : CalV mX11_inEngines 0 := ⟨⟨inT8 (w := Cond.code yX11_inEngines cX11_inEngines 3 (some .int)) 98 (rfl) (rfl), inT1 (w := Cond.initialized "EngineMonasteryModel") 12 (rfl) (rfl), by decide, by decide +kernel, by decide +kernel, by decide +kernel⟩, inT8 (w := Cond.instanceMethod yX11_inEngines) 97 (rfl) (rfl), inWALL (w := Cond.selects "EngineMonasteryModel" yX11_inEngines yX11_inEngines) 52 (by decide +kernel) (by decide +kernel)⟩
abbrev mX11_allOilByAccounts : MI := (yX11_allOilByAccounts, cX11_allOilByAccounts, 1, (some .int))
theorem kalX11_allOilByAccounts : CalV mX11_allOilByAccounts 0 := ⟨⟨inT8 (w := Cond.code yX11_allOilByAccounts cX11_allOilByAccounts 1 (some .int)) 102 (rfl) (rfl), inT1 (w := Cond.initialized "EngineMonasteryModel") 12 (rfl) (rfl), by decide, by decide +kernel, by decide +kernel, by decide +kernel⟩, inT8 (w := Cond.instanceMethod yX11_allOilByAccounts) 100 (rfl) (rfl), inT8 (w := Cond.selects "EngineMonasteryModel" yX11_allOilByAccounts yX11_allOilByAccounts) 101 (rfl) (rfl)⟩
abbrev mX11_knockCount : MI := (yX11_knockCount, cX11_knockCount, 2, (some .int))
theorem kalX11_knockCount : CalV mX11_knockCount 1 := ⟨⟨inT8 (w := Cond.code yX11_knockCount cX11_knockCount 2 (some .int)) 107 (rfl) (rfl), inT1 (w := Cond.initialized "EngineMonasteryModel") 12 (rfl) (rfl), by decide, by decide +kernel, by decide +kernel, by decide +kernel⟩, inT8 (w := Cond.instanceMethod yX11_knockCount) 105 (rfl) (rfl), inT8 (w := Cond.selects "EngineMonasteryModel" yX11_knockCount yX11_knockCount) 106 (rfl) (rfl)⟩
abbrev mX11_knockAt : MI := (yX11_knockAt, cX11_knockAt, 4, (some .int))
theorem kalX11_knockAt : CalV mX11_knockAt 2 := ⟨⟨inT8 (w := Cond.code yX11_knockAt cX11_knockAt 4 (some .int)) 111 (rfl) (rfl), inT1 (w := Cond.initialized "EngineMonasteryModel") 12 (rfl) (rfl), by decide, by decide +kernel, by decide +kernel, by decide +kernel⟩, inT8 (w := Cond.instanceMethod yX11_knockAt) 109 (rfl) (rfl), inT8 (w := Cond.selects "EngineMonasteryModel" yX11_knockAt yX11_knockAt) 110 (rfl) (rfl)⟩
abbrev mX11_knockPeriod : MI := (yX11_knockPeriod, cX11_knockPeriod, 6, (some .int))
theorem kalX11_knockPeriod : CalV mX11_knockPeriod 1 := ⟨⟨inT8 (w := Cond.code yX11_knockPeriod cX11_knockPeriod 6 (some .int)) 115 (rfl) (rfl), inT1 (w := Cond.initialized "EngineMonasteryModel") 12 (rfl) (rfl), by decide, by decide +kernel, by decide +kernel, by decide +kernel⟩, inT8 (w := Cond.instanceMethod yX11_knockPeriod) 113 (rfl) (rfl), inT8 (w := Cond.selects "EngineMonasteryModel" yX11_knockPeriod yX11_knockPeriod) 114 (rfl) (rfl)⟩
abbrev mX11_knockPeriodByTrying : MI := (yX11_knockPeriodByTrying, cX11_knockPeriodByTrying, 2, (some .int))
theorem kalX11_knockPeriodByTrying : CalV mX11_knockPeriodByTrying 1 := ⟨⟨inT8 (w := Cond.code yX11_knockPeriodByTrying cX11_knockPeriodByTrying 2 (some .int)) 119 (rfl) (rfl), inT1 (w := Cond.initialized "EngineMonasteryModel") 12 (rfl) (rfl), by decide, by decide +kernel, by decide +kernel, by decide +kernel⟩, inT8 (w := Cond.instanceMethod yX11_knockPeriodByTrying) 117 (rfl) (rfl), inT8 (w := Cond.selects "EngineMonasteryModel" yX11_knockPeriodByTrying yX11_knockPeriodByTrying) 118 (rfl) (rfl)⟩
abbrev mX11_engineAtRank : MI := (yX11_engineAtRank, cX11_engineAtRank, 6, (some .int))
theorem kalX11_engineAtRank : CalV mX11_engineAtRank 1 := ⟨⟨inT8 (w := Cond.code yX11_engineAtRank cX11_engineAtRank 6 (some .int)) 124 (rfl) (rfl), inT1 (w := Cond.initialized "EngineMonasteryModel") 12 (rfl) (rfl), by decide, by decide +kernel, by decide +kernel, by decide +kernel⟩, inT8 (w := Cond.instanceMethod yX11_engineAtRank) 122 (rfl) (rfl), inT8 (w := Cond.selects "EngineMonasteryModel" yX11_engineAtRank yX11_engineAtRank) 123 (rfl) (rfl)⟩
abbrev mX11_worn : MI := (yX11_worn, cX11_worn, 4, (some .int))
theorem kalX11_worn : CalV mX11_worn 1 := ⟨⟨inT8 (w := Cond.code yX11_worn cX11_worn 4 (some .int)) 128 (rfl) (rfl), inT1 (w := Cond.initialized "EngineMonasteryModel") 12 (rfl) (rfl), by decide, by decide +kernel, by decide +kernel, by decide +kernel⟩, inT8 (w := Cond.instanceMethod yX11_worn) 127 (rfl) (rfl), inWALL (w := Cond.selects "EngineMonasteryModel" yX11_worn yX11_worn) 53 (by decide +kernel) (by decide +kernel)⟩
abbrev mX11_mostVigils : MI := (yX11_mostVigils, cX11_mostVigils, 1, (some .int))
theorem kalX11_mostVigils : CalV mX11_mostVigils 0 := ⟨⟨inT8 (w := Cond.code yX11_mostVigils cX11_mostVigils 1 (some .int)) 132 (rfl) (rfl), inT1 (w := Cond.initialized "EngineMonasteryModel") 12 (rfl) (rfl), by decide, by decide +kernel, by decide +kernel, by decide +kernel⟩, inT8 (w := Cond.instanceMethod yX11_mostVigils) 130 (rfl) (rfl), inT8 (w := Cond.selects "EngineMonasteryModel" yX11_mostVigils yX11_mostVigils) 131 (rfl) (rfl)⟩
abbrev mX11_rotas : MI := (yX11_rotas, cX11_rotas, 5, (some .int))
theorem kalX11_rotas : CalV mX11_rotas 0 := ⟨⟨inT8 (w := Cond.code yX11_rotas cX11_rotas 5 (some .int)) 136 (rfl) (rfl), inT1 (w := Cond.initialized "EngineMonasteryModel") 12 (rfl) (rfl), by decide, by decide +kernel, by decide +kernel, by decide +kernel⟩, inT8 (w := Cond.instanceMethod yX11_rotas) 135 (rfl) (rfl), inWALL (w := Cond.selects "EngineMonasteryModel" yX11_rotas yX11_rotas) 54 (by decide +kernel) (by decide +kernel)⟩
abbrev mX11_behind : MI := (yX11_behind, cX11_behind, 5, (some .int))
theorem kalX11_behind : CalV mX11_behind 3 := ⟨⟨inT8 (w := Cond.code yX11_behind cX11_behind 5 (some .int)) 140 (rfl) (rfl), inT1 (w := Cond.initialized "EngineMonasteryModel") 12 (rfl) (rfl), by decide, by decide +kernel, by decide +kernel, by decide +kernel⟩, inT8 (w := Cond.instanceMethod yX11_behind) 139 (rfl) (rfl), inWALL (w := Cond.selects "EngineMonasteryModel" yX11_behind yX11_behind) 55 (by decide +kernel) (by decide +kernel)⟩
abbrev mX11_isAble : MI := (yX11_isAble, cX11_isAble, 3, (some .boolean))
theorem kalX11_isAble : CalV mX11_isAble 2 := ⟨⟨inT8 (w := Cond.code yX11_isAble cX11_isAble 3 (some .boolean)) 144 (rfl) (rfl), inT1 (w := Cond.initialized "EngineMonasteryModel") 12 (rfl) (rfl), by decide, by decide +kernel, by decide +kernel, by decide +kernel⟩, inT8 (w := Cond.instanceMethod yX11_isAble) 143 (rfl) (rfl), inWALL (w := Cond.selects "EngineMonasteryModel" yX11_isAble yX11_isAble) 56 (by decide +kernel) (by decide +kernel)⟩
abbrev mX11_mostVigilsByTable : MI := (yX11_mostVigilsByTable, cX11_mostVigilsByTable, 1, (some .int))
theorem kalX11_mostVigilsByTable : CalV mX11_mostVigilsByTable 0 := ⟨⟨inT8 (w := Cond.code yX11_mostVigilsByTable cX11_mostVigilsByTable 1 (some .int)) 149 (rfl) (rfl), inT1 (w := Cond.initialized "EngineMonasteryModel") 12 (rfl) (rfl), by decide, by decide +kernel, by decide +kernel, by decide +kernel⟩, inT8 (w := Cond.instanceMethod yX11_mostVigilsByTable) 147 (rfl) (rfl), inT8 (w := Cond.selects "EngineMonasteryModel" yX11_mostVigilsByTable yX11_mostVigilsByTable) 148 (rfl) (rfl)⟩
abbrev mX11_keeperOf : MI := (yX11_keeperOf, cX11_keeperOf, 2, (some .int))
theorem kalX11_keeperOf : CalV mX11_keeperOf 1 := ⟨⟨inT8 (w := Cond.code yX11_keeperOf cX11_keeperOf 2 (some .int)) 154 (rfl) (rfl), inT1 (w := Cond.initialized "EngineMonasteryModel") 12 (rfl) (rfl), by decide, by decide +kernel, by decide +kernel, by decide +kernel⟩, inT8 (w := Cond.instanceMethod yX11_keeperOf) 152 (rfl) (rfl), inT8 (w := Cond.selects "EngineMonasteryModel" yX11_keeperOf yX11_keeperOf) 153 (rfl) (rfl)⟩
abbrev mX11_repairCount : MI := (yX11_repairCount, cX11_repairCount, 1, (some .int))
theorem kalX11_repairCount : CalV mX11_repairCount 0 := ⟨⟨inT8 (w := Cond.code yX11_repairCount cX11_repairCount 1 (some .int)) 158 (rfl) (rfl), inT1 (w := Cond.initialized "EngineMonasteryModel") 12 (rfl) (rfl), by decide, by decide +kernel, by decide +kernel, by decide +kernel⟩, inT8 (w := Cond.instanceMethod yX11_repairCount) 156 (rfl) (rfl), inT8 (w := Cond.selects "EngineMonasteryModel" yX11_repairCount yX11_repairCount) 157 (rfl) (rfl)⟩
abbrev mX11_leastPenance : MI := (yX11_leastPenance, cX11_leastPenance, 3, (some .int))
theorem kalX11_leastPenance : CalV mX11_leastPenance 0 := ⟨⟨inT8 (w := Cond.code yX11_leastPenance cX11_leastPenance 3 (some .int)) 162 (rfl) (rfl), inT1 (w := Cond.initialized "EngineMonasteryModel") 12 (rfl) (rfl), by decide, by decide +kernel, by decide +kernel, by decide +kernel⟩, inT8 (w := Cond.instanceMethod yX11_leastPenance) 160 (rfl) (rfl), inT8 (w := Cond.selects "EngineMonasteryModel" yX11_leastPenance yX11_leastPenance) 161 (rfl) (rfl)⟩
abbrev mX11_before : MI := (yX11_before, cX11_before, 4, (some .int))
theorem kalX11_before : CalV mX11_before 1 := ⟨⟨inT8 (w := Cond.code yX11_before cX11_before 4 (some .int)) 166 (rfl) (rfl), inT1 (w := Cond.initialized "EngineMonasteryModel") 12 (rfl) (rfl), by decide, by decide +kernel, by decide +kernel, by decide +kernel⟩, inT8 (w := Cond.instanceMethod yX11_before) 165 (rfl) (rfl), inWALL (w := Cond.selects "EngineMonasteryModel" yX11_before yX11_before) 57 (by decide +kernel) (by decide +kernel)⟩
abbrev mX11_leastPenanceByTable : MI := (yX11_leastPenanceByTable, cX11_leastPenanceByTable, 1, (some .int))
theorem kalX11_leastPenanceByTable : CalV mX11_leastPenanceByTable 0 := ⟨⟨inT8 (w := Cond.code yX11_leastPenanceByTable cX11_leastPenanceByTable 1 (some .int)) 170 (rfl) (rfl), inT1 (w := Cond.initialized "EngineMonasteryModel") 12 (rfl) (rfl), by decide, by decide +kernel, by decide +kernel, by decide +kernel⟩, inT8 (w := Cond.instanceMethod yX11_leastPenanceByTable) 168 (rfl) (rfl), inT8 (w := Cond.selects "EngineMonasteryModel" yX11_leastPenanceByTable yX11_leastPenanceByTable) 169 (rfl) (rfl)⟩
abbrev mX11_penanceDone : MI := (yX11_penanceDone, cX11_penanceDone, 1, (some .int))
theorem kalX11_penanceDone : CalV mX11_penanceDone 0 := ⟨⟨inT8 (w := Cond.code yX11_penanceDone cX11_penanceDone 1 (some .int)) 175 (rfl) (rfl), inT1 (w := Cond.initialized "EngineMonasteryModel") 12 (rfl) (rfl), by decide, by decide +kernel, by decide +kernel, by decide +kernel⟩, inT8 (w := Cond.instanceMethod yX11_penanceDone) 173 (rfl) (rfl), inT8 (w := Cond.selects "EngineMonasteryModel" yX11_penanceDone yX11_penanceDone) 174 (rfl) (rfl)⟩
abbrev mX11_hour : MI := (yX11_hour, cX11_hour, 1, (some .int))
theorem kalX11_hour : CalV mX11_hour 0 := ⟨⟨inT8 (w := Cond.code yX11_hour cX11_hour 1 (some .int)) 179 (rfl) (rfl), inT1 (w := Cond.initialized "EngineMonasteryModel") 12 (rfl) (rfl), by decide, by decide +kernel, by decide +kernel, by decide +kernel⟩, inT8 (w := Cond.instanceMethod yX11_hour) 177 (rfl) (rfl), inT8 (w := Cond.selects "EngineMonasteryModel" yX11_hour yX11_hour) 178 (rfl) (rfl)⟩
abbrev mX11_knocksIn : MI := (yX11_knocksIn, cX11_knocksIn, 3, (some .int))
theorem kalX11_knocksIn : CalV mX11_knocksIn 1 := ⟨⟨inT8 (w := Cond.code yX11_knocksIn cX11_knocksIn 3 (some .int)) 183 (rfl) (rfl), inT1 (w := Cond.initialized "EngineMonasteryModel") 12 (rfl) (rfl), by decide, by decide +kernel, by decide +kernel, by decide +kernel⟩, inT8 (w := Cond.instanceMethod yX11_knocksIn) 181 (rfl) (rfl), inT8 (w := Cond.selects "EngineMonasteryModel" yX11_knocksIn yX11_knocksIn) 182 (rfl) (rfl)⟩
abbrev mX11_hourOfKnocks : MI := (yX11_hourOfKnocks, cX11_hourOfKnocks, 3, (some .int))
theorem kalX11_hourOfKnocks : CalV mX11_hourOfKnocks 1 := ⟨⟨inT8 (w := Cond.code yX11_hourOfKnocks cX11_hourOfKnocks 3 (some .int)) 187 (rfl) (rfl), inT1 (w := Cond.initialized "EngineMonasteryModel") 12 (rfl) (rfl), by decide, by decide +kernel, by decide +kernel, by decide +kernel⟩, inT8 (w := Cond.instanceMethod yX11_hourOfKnocks) 185 (rfl) (rfl), inT8 (w := Cond.selects "EngineMonasteryModel" yX11_hourOfKnocks yX11_hourOfKnocks) 186 (rfl) (rfl)⟩
abbrev mX11_append : MI := (yX11_append, cX11_append, 2, (some .int))
theorem kalX11_append : CalV mX11_append 1 := ⟨⟨inT8 (w := Cond.code yX11_append cX11_append 2 (some .int)) 191 (rfl) (rfl), inT1 (w := Cond.initialized "EngineMonasteryModel") 12 (rfl) (rfl), by decide, by decide +kernel, by decide +kernel, by decide +kernel⟩, inT8 (w := Cond.instanceMethod yX11_append) 189 (rfl) (rfl), inT8 (w := Cond.selects "EngineMonasteryModel" yX11_append yX11_append) 190 (rfl) (rfl)⟩
abbrev mX11_execute : MI := (yX11_execute, cX11_execute, 4, (some .int))
theorem kalX11_execute : CalV mX11_execute 0 := ⟨⟨inT8 (w := Cond.code yX11_execute cX11_execute 4 (some .int)) 197 (rfl) (rfl), inT1 (w := Cond.initialized "EngineMonasteryModel") 12 (rfl) (rfl), by decide, by decide +kernel, by decide +kernel, by decide +kernel⟩, inT8 (w := Cond.instanceMethod yX11_execute) 195 (rfl) (rfl), inT8 (w := Cond.selects "EngineMonasteryModel" yX11_execute yX11_execute) 196 (rfl) (rfl)⟩
abbrev mX11_readCommand : MI := (yX11_readCommand, cX11_readCommand, 4, none)
theorem kalX11_readCommand : CalV mX11_readCommand 0 := ⟨⟨inT8 (w := Cond.code yX11_readCommand cX11_readCommand 4 none) 201 (rfl) (rfl), inT1 (w := Cond.initialized "EngineMonasteryModel") 12 (rfl) (rfl), by decide, by decide +kernel, by decide +kernel, by decide +kernel⟩, inT8 (w := Cond.instanceMethod yX11_readCommand) 200 (rfl) (rfl), inWALL (w := Cond.selects "EngineMonasteryModel" yX11_readCommand yX11_readCommand) 58 (by decide +kernel) (by decide +kernel)⟩
abbrev mX11_likeness : MI := (yX11_likeness, cX11_likeness, 4, (some .int))
theorem kalX11_likeness : CalV mX11_likeness 1 := ⟨⟨inT8 (w := Cond.code yX11_likeness cX11_likeness 4 (some .int)) 205 (rfl) (rfl), inT1 (w := Cond.initialized "EngineMonasteryModel") 12 (rfl) (rfl), by decide, by decide +kernel, by decide +kernel, by decide +kernel⟩, inT8 (w := Cond.instanceMethod yX11_likeness) 204 (rfl) (rfl), inWALL (w := Cond.selects "EngineMonasteryModel" yX11_likeness yX11_likeness) 59 (by decide +kernel) (by decide +kernel)⟩
abbrev mX11_readArguments : MI := (yX11_readArguments, cX11_readArguments, 5, none)
theorem kalX11_readArguments : CalV mX11_readArguments 2 := ⟨⟨inT8 (w := Cond.code yX11_readArguments cX11_readArguments 5 none) 209 (rfl) (rfl), inT1 (w := Cond.initialized "EngineMonasteryModel") 12 (rfl) (rfl), by decide, by decide +kernel, by decide +kernel, by decide +kernel⟩, inT8 (w := Cond.instanceMethod yX11_readArguments) 208 (rfl) (rfl), inWALL (w := Cond.selects "EngineMonasteryModel" yX11_readArguments yX11_readArguments) 60 (by decide +kernel) (by decide +kernel)⟩
abbrev mX11_number : MI := (yX11_number, cX11_number, 2, (some .int))
theorem kalX11_number : CalV mX11_number 0 := ⟨⟨inT8 (w := Cond.code yX11_number cX11_number 2 (some .int)) 213 (rfl) (rfl), inT1 (w := Cond.initialized "EngineMonasteryModel") 12 (rfl) (rfl), by decide, by decide +kernel, by decide +kernel, by decide +kernel⟩, inT8 (w := Cond.instanceMethod yX11_number) 212 (rfl) (rfl), inWALL (w := Cond.selects "EngineMonasteryModel" yX11_number yX11_number) 61 (by decide +kernel) (by decide +kernel)⟩
abbrev mX11_digit : MI := (yX11_digit, cX11_digit, 2, (some .int))
theorem kalX11_digit : CalV mX11_digit 0 := ⟨⟨inT8 (w := Cond.code yX11_digit cX11_digit 2 (some .int)) 217 (rfl) (rfl), inT1 (w := Cond.initialized "EngineMonasteryModel") 12 (rfl) (rfl), by decide, by decide +kernel, by decide +kernel, by decide +kernel⟩, inT8 (w := Cond.instanceMethod yX11_digit) 216 (rfl) (rfl), inWALL (w := Cond.selects "EngineMonasteryModel" yX11_digit yX11_digit) 62 (by decide +kernel) (by decide +kernel)⟩
abbrev mX11_here : MI := (yX11_here, cX11_here, 1, (some .int))
theorem kalX11_here : CalV mX11_here 0 := ⟨⟨inT8 (w := Cond.code yX11_here cX11_here 1 (some .int)) 221 (rfl) (rfl), inT1 (w := Cond.initialized "EngineMonasteryModel") 12 (rfl) (rfl), by decide, by decide +kernel, by decide +kernel, by decide +kernel⟩, inT8 (w := Cond.instanceMethod yX11_here) 220 (rfl) (rfl), inWALL (w := Cond.selects "EngineMonasteryModel" yX11_here yX11_here) 63 (by decide +kernel) (by decide +kernel)⟩
abbrev mX11_digitBehind : MI := (yX11_digitBehind, cX11_digitBehind, 2, (some .int))
theorem kalX11_digitBehind : CalV mX11_digitBehind 1 := ⟨⟨inT8 (w := Cond.code yX11_digitBehind cX11_digitBehind 2 (some .int)) 226 (rfl) (rfl), inT1 (w := Cond.initialized "EngineMonasteryModel") 12 (rfl) (rfl), by decide, by decide +kernel, by decide +kernel, by decide +kernel⟩, inT8 (w := Cond.instanceMethod yX11_digitBehind) 225 (rfl) (rfl), inWALL (w := Cond.selects "EngineMonasteryModel" yX11_digitBehind yX11_digitBehind) 64 (by decide +kernel) (by decide +kernel)⟩
abbrev mX11_expects : MI := (yX11_expects, cX11_expects, 2, none)
theorem kalX11_expects : CalV mX11_expects 1 := ⟨⟨inT8 (w := Cond.code yX11_expects cX11_expects 2 none) 230 (rfl) (rfl), inT1 (w := Cond.initialized "EngineMonasteryModel") 12 (rfl) (rfl), by decide, by decide +kernel, by decide +kernel, by decide +kernel⟩, inT8 (w := Cond.instanceMethod yX11_expects) 229 (rfl) (rfl), inWALL (w := Cond.selects "EngineMonasteryModel" yX11_expects yX11_expects) 65 (by decide +kernel) (by decide +kernel)⟩
abbrev mX11_numberBehind : MI := (yX11_numberBehind, cX11_numberBehind, 2, (some .int))
theorem kalX11_numberBehind : CalV mX11_numberBehind 1 := ⟨⟨inT8 (w := Cond.code yX11_numberBehind cX11_numberBehind 2 (some .int)) 234 (rfl) (rfl), inT1 (w := Cond.initialized "EngineMonasteryModel") 12 (rfl) (rfl), by decide, by decide +kernel, by decide +kernel, by decide +kernel⟩, inT8 (w := Cond.instanceMethod yX11_numberBehind) 233 (rfl) (rfl), inWALL (w := Cond.selects "EngineMonasteryModel" yX11_numberBehind yX11_numberBehind) 66 (by decide +kernel) (by decide +kernel)⟩
abbrev mX11_does : MI := (yX11_does, cX11_does, 5, none)
theorem kalX11_does : CalV mX11_does 1 := ⟨⟨inT8 (w := Cond.code yX11_does cX11_does 5 none) 238 (rfl) (rfl), inT1 (w := Cond.initialized "EngineMonasteryModel") 12 (rfl) (rfl), by decide, by decide +kernel, by decide +kernel, by decide +kernel⟩, inT8 (w := Cond.instanceMethod yX11_does) 237 (rfl) (rfl), inWALL (w := Cond.selects "EngineMonasteryModel" yX11_does yX11_does) 67 (by decide +kernel) (by decide +kernel)⟩
abbrev mX11_errorPosition : MI := (yX11_errorPosition, cX11_errorPosition, 1, (some .int))
theorem kalX11_errorPosition : CalV mX11_errorPosition 0 := ⟨⟨inT9 (w := Cond.code yX11_errorPosition cX11_errorPosition 1 (some .int)) 2 (rfl) (rfl), inT1 (w := Cond.initialized "EngineMonasteryModel") 12 (rfl) (rfl), by decide, by decide +kernel, by decide +kernel, by decide +kernel⟩, inT9 (w := Cond.instanceMethod yX11_errorPosition) 0 (rfl) (rfl), inT9 (w := Cond.selects "EngineMonasteryModel" yX11_errorPosition yX11_errorPosition) 1 (rfl) (rfl)⟩
abbrev mX11_failedCommand : MI := (yX11_failedCommand, cX11_failedCommand, 1, (some .int))
theorem kalX11_failedCommand : CalV mX11_failedCommand 0 := ⟨⟨inT9 (w := Cond.code yX11_failedCommand cX11_failedCommand 1 (some .int)) 6 (rfl) (rfl), inT1 (w := Cond.initialized "EngineMonasteryModel") 12 (rfl) (rfl), by decide, by decide +kernel, by decide +kernel, by decide +kernel⟩, inT9 (w := Cond.instanceMethod yX11_failedCommand) 4 (rfl) (rfl), inT9 (w := Cond.selects "EngineMonasteryModel" yX11_failedCommand yX11_failedCommand) 5 (rfl) (rfl)⟩
abbrev mX11_describeEngine : MI := (yX11_describeEngine, cX11_describeEngine, 4, (some .int))
theorem kalX11_describeEngine : CalV mX11_describeEngine 1 := ⟨⟨inT9 (w := Cond.code yX11_describeEngine cX11_describeEngine 4 (some .int)) 10 (rfl) (rfl), inT1 (w := Cond.initialized "EngineMonasteryModel") 12 (rfl) (rfl), by decide, by decide +kernel, by decide +kernel, by decide +kernel⟩, inT9 (w := Cond.instanceMethod yX11_describeEngine) 8 (rfl) (rfl), inT9 (w := Cond.selects "EngineMonasteryModel" yX11_describeEngine yX11_describeEngine) 9 (rfl) (rfl)⟩
abbrev mX11_sign : MI := (yX11_sign, cX11_sign, 2, none)
theorem kalX11_sign : CalV mX11_sign 1 := ⟨⟨inT9 (w := Cond.code yX11_sign cX11_sign 2 none) 14 (rfl) (rfl), inT1 (w := Cond.initialized "EngineMonasteryModel") 12 (rfl) (rfl), by decide, by decide +kernel, by decide +kernel, by decide +kernel⟩, inT9 (w := Cond.instanceMethod yX11_sign) 13 (rfl) (rfl), inWALL (w := Cond.selects "EngineMonasteryModel" yX11_sign yX11_sign) 68 (by decide +kernel) (by decide +kernel)⟩
abbrev mX11_describeRota : MI := (yX11_describeRota, cX11_describeRota, 2, (some .int))
theorem kalX11_describeRota : CalV mX11_describeRota 0 := ⟨⟨inT9 (w := Cond.code yX11_describeRota cX11_describeRota 2 (some .int)) 18 (rfl) (rfl), inT1 (w := Cond.initialized "EngineMonasteryModel") 12 (rfl) (rfl), by decide, by decide +kernel, by decide +kernel, by decide +kernel⟩, inT9 (w := Cond.instanceMethod yX11_describeRota) 16 (rfl) (rfl), inT9 (w := Cond.selects "EngineMonasteryModel" yX11_describeRota yX11_describeRota) 17 (rfl) (rfl)⟩
abbrev mX11_lineAt : MI := (yX11_lineAt, cX11_lineAt, 2, (some .char))
theorem kalX11_lineAt : CalV mX11_lineAt 1 := ⟨⟨inT9 (w := Cond.code yX11_lineAt cX11_lineAt 2 (some .char)) 22 (rfl) (rfl), inT1 (w := Cond.initialized "EngineMonasteryModel") 12 (rfl) (rfl), by decide, by decide +kernel, by decide +kernel, by decide +kernel⟩, inT9 (w := Cond.instanceMethod yX11_lineAt) 20 (rfl) (rfl), inT9 (w := Cond.selects "EngineMonasteryModel" yX11_lineAt yX11_lineAt) 21 (rfl) (rfl)⟩
abbrev mX11_meanOil : MI := (yX11_meanOil, cX11_meanOil, 2, (some .double))
theorem kalX11_meanOil : CalV mX11_meanOil 0 := ⟨⟨inT9 (w := Cond.code yX11_meanOil cX11_meanOil 2 (some .double)) 26 (rfl) (rfl), inT1 (w := Cond.initialized "EngineMonasteryModel") 12 (rfl) (rfl), by decide, by decide +kernel, by decide +kernel, by decide +kernel⟩, inT9 (w := Cond.instanceMethod yX11_meanOil) 24 (rfl) (rfl), inT9 (w := Cond.selects "EngineMonasteryModel" yX11_meanOil yX11_meanOil) 25 (rfl) (rfl)⟩
abbrev mX11_vigilShare : MI := (yX11_vigilShare, cX11_vigilShare, 1, (some .float))
theorem kalX11_vigilShare : CalV mX11_vigilShare 0 := ⟨⟨inT9 (w := Cond.code yX11_vigilShare cX11_vigilShare 1 (some .float)) 30 (rfl) (rfl), inT1 (w := Cond.initialized "EngineMonasteryModel") 12 (rfl) (rfl), by decide, by decide +kernel, by decide +kernel, by decide +kernel⟩, inT9 (w := Cond.instanceMethod yX11_vigilShare) 28 (rfl) (rfl), inT9 (w := Cond.selects "EngineMonasteryModel" yX11_vigilShare yX11_vigilShare) 29 (rfl) (rfl)⟩
abbrev mX11_isConsistent : MI := (yX11_isConsistent, cX11_isConsistent, 1, (some .boolean))
theorem kalX11_isConsistent : CalV mX11_isConsistent 0 := ⟨⟨inT9 (w := Cond.code yX11_isConsistent cX11_isConsistent 1 (some .boolean)) 35 (rfl) (rfl), inT1 (w := Cond.initialized "EngineMonasteryModel") 12 (rfl) (rfl), by decide, by decide +kernel, by decide +kernel, by decide +kernel⟩, inT9 (w := Cond.instanceMethod yX11_isConsistent) 33 (rfl) (rfl), inT9 (w := Cond.selects "EngineMonasteryModel" yX11_isConsistent yX11_isConsistent) 34 (rfl) (rfl)⟩
abbrev mX11_undo : MI := (yX11_undo, cX11_undo, 2, (some .int))
theorem kalX11_undo : CalV mX11_undo 0 := ⟨⟨inT9 (w := Cond.code yX11_undo cX11_undo 2 (some .int)) 39 (rfl) (rfl), inT1 (w := Cond.initialized "EngineMonasteryModel") 12 (rfl) (rfl), by decide, by decide +kernel, by decide +kernel, by decide +kernel⟩, inT9 (w := Cond.instanceMethod yX11_undo) 37 (rfl) (rfl), inT9 (w := Cond.selects "EngineMonasteryModel" yX11_undo yX11_undo) 38 (rfl) (rfl)⟩
abbrev mX11_save : MI := (yX11_save, cX11_save, 2, (some .int))
theorem kalX11_save : CalV mX11_save 0 := ⟨⟨inT9 (w := Cond.code yX11_save cX11_save 2 (some .int)) 43 (rfl) (rfl), inT1 (w := Cond.initialized "EngineMonasteryModel") 12 (rfl) (rfl), by decide, by decide +kernel, by decide +kernel, by decide +kernel⟩, inT9 (w := Cond.instanceMethod yX11_save) 41 (rfl) (rfl), inT9 (w := Cond.selects "EngineMonasteryModel" yX11_save yX11_save) 42 (rfl) (rfl)⟩
abbrev mX11_restore : MI := (yX11_restore, cX11_restore, 2, (some .int))
theorem kalX11_restore : CalV mX11_restore 0 := ⟨⟨inT9 (w := Cond.code yX11_restore cX11_restore 2 (some .int)) 47 (rfl) (rfl), inT1 (w := Cond.initialized "EngineMonasteryModel") 12 (rfl) (rfl), by decide, by decide +kernel, by decide +kernel, by decide +kernel⟩, inT9 (w := Cond.instanceMethod yX11_restore) 45 (rfl) (rfl), inT9 (w := Cond.selects "EngineMonasteryModel" yX11_restore yX11_restore) 46 (rfl) (rfl)⟩
theorem lkL_8 : Cond.classLink RL 8 "EngineMonastery" ∈ WALL := inT1 (w := Cond.classLink RL 8 "EngineMonastery") 28 (rfl) (rfl)
theorem lkL_156 : Cond.methodLink RL 156 yX10_init ∈ WALL := inT1 (w := Cond.methodLink RL 156 yX10_init) 30 (rfl) (rfl)
theorem lkX10_1 : Cond.methodLink RX10 1 Lib.objectInit ∈ WALL := inT1 (w := Cond.methodLink RX10 1 Lib.objectInit) 33 (rfl) (rfl)
theorem lkX10_7 : Cond.classLink RX10 7 "EngineMonastery$House" ∈ WALL := inT1 (w := Cond.classLink RX10 7 "EngineMonastery$House") 36 (rfl) (rfl)
theorem lkX10_9 : Cond.methodLink RX10 9 yX3_init ∈ WALL := inT1 (w := Cond.methodLink RX10 9 yX3_init) 38 (rfl) (rfl)
theorem lkX3_3 : Cond.methodLink RX3 3 Lib.objectInit ∈ WALL := inT1 (w := Cond.methodLink RX3 3 Lib.objectInit) 41 (rfl) (rfl)
theorem lkX3_9 : Cond.classLink RX3 9 "EngineMonastery$Engine" ∈ WALL := inT1 (w := Cond.classLink RX3 9 "EngineMonastery$Engine") 42 (rfl) (rfl)
theorem lkX3_21 : Cond.classLink RX3 21 "EngineMonastery$Repairs" ∈ WALL := inT1 (w := Cond.classLink RX3 21 "EngineMonastery$Repairs") 44 (rfl) (rfl)
theorem lkX8_3 : Cond.methodLink RX8 3 Lib.objectInit ∈ WALL := inT1 (w := Cond.methodLink RX8 3 Lib.objectInit) 49 (rfl) (rfl)
theorem lkX8_9 : Cond.fieldLink RX8 9 "EngineMonastery$Repairs" "engines" "[I" ∈ WALL := inT1 (w := Cond.fieldLink RX8 9 "EngineMonastery$Repairs" "engines" "[I") 50 (rfl) (rfl)
theorem lkX3_208 : Cond.fieldLink RX3 208 "EngineMonastery$Repairs" "engines" "[I" ∈ WALL := inT1 (w := Cond.fieldLink RX3 208 "EngineMonastery$Repairs" "engines" "[I") 51 (rfl) (rfl)
theorem lkX8_15 : Cond.fieldLink RX8 15 "EngineMonastery$Repairs" "hours" "[I" ∈ WALL := inT1 (w := Cond.fieldLink RX8 15 "EngineMonastery$Repairs" "hours" "[I") 52 (rfl) (rfl)
theorem lkX7_28 : Cond.fieldLink RX7 28 "EngineMonastery$Repairs" "hours" "[I" ∈ WALL := inT1 (w := Cond.fieldLink RX7 28 "EngineMonastery$Repairs" "hours" "[I") 53 (rfl) (rfl)
theorem lkX3_210 : Cond.fieldLink RX3 210 "EngineMonastery$Repairs" "hours" "[I" ∈ WALL := inT1 (w := Cond.fieldLink RX3 210 "EngineMonastery$Repairs" "hours" "[I") 54 (rfl) (rfl)
theorem lkX8_18 : Cond.fieldLink RX8 18 "EngineMonastery$Repairs" "penances" "[I" ∈ WALL := inT1 (w := Cond.fieldLink RX8 18 "EngineMonastery$Repairs" "penances" "[I") 55 (rfl) (rfl)
theorem lkX7_31 : Cond.fieldLink RX7 31 "EngineMonastery$Repairs" "penances" "[I" ∈ WALL := inT1 (w := Cond.fieldLink RX7 31 "EngineMonastery$Repairs" "penances" "[I") 56 (rfl) (rfl)
theorem lkX7_18 : Cond.fieldLink RX7 18 "EngineMonastery$Repairs" "count" "I" ∈ WALL := inT1 (w := Cond.fieldLink RX7 18 "EngineMonastery$Repairs" "count" "I") 57 (rfl) (rfl)
theorem lkX8_27 : Cond.fieldLink RX8 27 "EngineMonastery$Repairs" "count" "I" ∈ WALL := inT1 (w := Cond.fieldLink RX8 27 "EngineMonastery$Repairs" "count" "I") 58 (rfl) (rfl)
theorem lkX3_91 : Cond.fieldLink RX3 91 "EngineMonastery$Repairs" "count" "I" ∈ WALL := inT1 (w := Cond.fieldLink RX3 91 "EngineMonastery$Repairs" "count" "I") 59 (rfl) (rfl)
theorem lkX10_277 : Cond.fieldLink RX10 277 "EngineMonastery$Repairs" "count" "I" ∈ WALL := inT1 (w := Cond.fieldLink RX10 277 "EngineMonastery$Repairs" "count" "I") 60 (rfl) (rfl)
theorem lkX3_28 : Cond.classLink RX3 28 "EngineMonastery$KnockBook" ∈ WALL := inT1 (w := Cond.classLink RX3 28 "EngineMonastery$KnockBook") 71 (rfl) (rfl)
theorem lkX4_3 : Cond.methodLink RX4 3 Lib.objectInit ∈ WALL := inT1 (w := Cond.methodLink RX4 3 Lib.objectInit) 76 (rfl) (rfl)
theorem lkX4_9 : Cond.fieldLink RX4 9 "EngineMonastery$KnockBook" "hours" "[I" ∈ WALL := inT1 (w := Cond.fieldLink RX4 9 "EngineMonastery$KnockBook" "hours" "[I") 77 (rfl) (rfl)
theorem lkX10_320 : Cond.fieldLink RX10 320 "EngineMonastery$KnockBook" "hours" "[I" ∈ WALL := inT1 (w := Cond.fieldLink RX10 320 "EngineMonastery$KnockBook" "hours" "[I") 78 (rfl) (rfl)
theorem lkX4_15 : Cond.fieldLink RX4 15 "EngineMonastery$KnockBook" "knocks" "[I" ∈ WALL := inT1 (w := Cond.fieldLink RX4 15 "EngineMonastery$KnockBook" "knocks" "[I") 79 (rfl) (rfl)
theorem lkX10_323 : Cond.fieldLink RX10 323 "EngineMonastery$KnockBook" "knocks" "[I" ∈ WALL := inT1 (w := Cond.fieldLink RX10 323 "EngineMonastery$KnockBook" "knocks" "[I") 80 (rfl) (rfl)
theorem lkX4_24 : Cond.fieldLink RX4 24 "EngineMonastery$KnockBook" "kept" "I" ∈ WALL := inT1 (w := Cond.fieldLink RX4 24 "EngineMonastery$KnockBook" "kept" "I") 81 (rfl) (rfl)
theorem lkX10_317 : Cond.fieldLink RX10 317 "EngineMonastery$KnockBook" "kept" "I" ∈ WALL := inT1 (w := Cond.fieldLink RX10 317 "EngineMonastery$KnockBook" "kept" "I") 82 (rfl) (rfl)
theorem lkX1_3 : Cond.methodLink RX1 3 Lib.objectInit ∈ WALL := inT1 (w := Cond.methodLink RX1 3 Lib.objectInit) 94 (rfl) (rfl)
theorem lkX1_9 : Cond.fieldLink RX1 9 "EngineMonastery$Engine" "order" "[I" ∈ WALL := inT1 (w := Cond.fieldLink RX1 9 "EngineMonastery$Engine" "order" "[I") 95 (rfl) (rfl)
theorem lkX10_128 : Cond.fieldLink RX10 128 "EngineMonastery$Engine" "order" "[I" ∈ WALL := inT1 (w := Cond.fieldLink RX10 128 "EngineMonastery$Engine" "order" "[I") 96 (rfl) (rfl)
theorem lkX1_15 : Cond.fieldLink RX1 15 "EngineMonastery$Engine" "oil" "[I" ∈ WALL := inT1 (w := Cond.fieldLink RX1 15 "EngineMonastery$Engine" "oil" "[I") 97 (rfl) (rfl)
theorem lkX10_199 : Cond.fieldLink RX10 199 "EngineMonastery$Engine" "oil" "[I" ∈ WALL := inT1 (w := Cond.fieldLink RX10 199 "EngineMonastery$Engine" "oil" "[I") 98 (rfl) (rfl)
theorem lkX3_190 : Cond.fieldLink RX3 190 "EngineMonastery$Engine" "oil" "[I" ∈ WALL := inT1 (w := Cond.fieldLink RX3 190 "EngineMonastery$Engine" "oil" "[I") 99 (rfl) (rfl)
theorem lkX1_18 : Cond.fieldLink RX1 18 "EngineMonastery$Engine" "wear" "[I" ∈ WALL := inT1 (w := Cond.fieldLink RX1 18 "EngineMonastery$Engine" "wear" "[I") 100 (rfl) (rfl)
theorem lkX10_202 : Cond.fieldLink RX10 202 "EngineMonastery$Engine" "wear" "[I" ∈ WALL := inT1 (w := Cond.fieldLink RX10 202 "EngineMonastery$Engine" "wear" "[I") 101 (rfl) (rfl)
theorem lkX3_238 : Cond.fieldLink RX3 238 "EngineMonastery$Engine" "wear" "[I" ∈ WALL := inT1 (w := Cond.fieldLink RX3 238 "EngineMonastery$Engine" "wear" "[I") 102 (rfl) (rfl)
theorem lkX1_21 : Cond.fieldLink RX1 21 "EngineMonastery$Engine" "knocks" "[I" ∈ WALL := inT1 (w := Cond.fieldLink RX1 21 "EngineMonastery$Engine" "knocks" "[I") 103 (rfl) (rfl)
theorem lkX1_34 : Cond.fieldLink RX1 34 "EngineMonastery$Engine" "oldestKnock" "I" ∈ WALL := inT1 (w := Cond.fieldLink RX1 34 "EngineMonastery$Engine" "oldestKnock" "I") 104 (rfl) (rfl)
theorem lkX1_37 : Cond.fieldLink RX1 37 "EngineMonastery$Engine" "knocksKept" "I" ∈ WALL := inT1 (w := Cond.fieldLink RX1 37 "EngineMonastery$Engine" "knocksKept" "I") 105 (rfl) (rfl)
theorem lkX10_220 : Cond.fieldLink RX10 220 "EngineMonastery$Engine" "knocksKept" "I" ∈ WALL := inT1 (w := Cond.fieldLink RX10 220 "EngineMonastery$Engine" "knocksKept" "I") 106 (rfl) (rfl)
theorem lkX1_24 : Cond.fieldLink RX1 24 "EngineMonastery$Engine" "cylinders" "I" ∈ WALL := inT1 (w := Cond.fieldLink RX1 24 "EngineMonastery$Engine" "cylinders" "I") 107 (rfl) (rfl)
theorem lkX10_117 : Cond.fieldLink RX10 117 "EngineMonastery$Engine" "cylinders" "I" ∈ WALL := inT1 (w := Cond.fieldLink RX10 117 "EngineMonastery$Engine" "cylinders" "I") 108 (rfl) (rfl)
theorem lkX3_202 : Cond.fieldLink RX3 202 "EngineMonastery$Engine" "cylinders" "I" ∈ WALL := inT1 (w := Cond.fieldLink RX3 202 "EngineMonastery$Engine" "cylinders" "I") 109 (rfl) (rfl)
theorem lkX1_28 : Cond.fieldLink RX1 28 "EngineMonastery$Engine" "due" "I" ∈ WALL := inT1 (w := Cond.fieldLink RX1 28 "EngineMonastery$Engine" "due" "I") 110 (rfl) (rfl)
theorem lkX10_439 : Cond.fieldLink RX10 439 "EngineMonastery$Engine" "due" "I" ∈ WALL := inT1 (w := Cond.fieldLink RX10 439 "EngineMonastery$Engine" "due" "I") 111 (rfl) (rfl)
theorem lkX1_31 : Cond.fieldLink RX1 31 "EngineMonastery$Engine" "rate" "I" ∈ WALL := inT1 (w := Cond.fieldLink RX1 31 "EngineMonastery$Engine" "rate" "I") 112 (rfl) (rfl)
theorem lkX3_222 : Cond.fieldLink RX3 222 "EngineMonastery$Engine" "rate" "I" ∈ WALL := inT1 (w := Cond.fieldLink RX3 222 "EngineMonastery$Engine" "rate" "I") 113 (rfl) (rfl)
theorem lkX3_11 : Cond.fieldLink RX3 11 "EngineMonastery$House" "engines" "[LEngineMonastery$Engine;" ∈ WALL := inT1 (w := Cond.fieldLink RX3 11 "EngineMonastery$House" "engines" "[LEngineMonastery$Engine;") 133 (rfl) (rfl)
theorem lkX10_94 : Cond.fieldLink RX10 94 "EngineMonastery$House" "engines" "[LEngineMonastery$Engine;" ∈ WALL := inT1 (w := Cond.fieldLink RX10 94 "EngineMonastery$House" "engines" "[LEngineMonastery$Engine;") 134 (rfl) (rfl)
theorem lkX3_17 : Cond.fieldLink RX3 17 "EngineMonastery$House" "vigilsOf" "[I" ∈ WALL := inT1 (w := Cond.fieldLink RX3 17 "EngineMonastery$House" "vigilsOf" "[I") 135 (rfl) (rfl)
theorem lkX10_249 : Cond.fieldLink RX10 249 "EngineMonastery$House" "vigilsOf" "[I" ∈ WALL := inT1 (w := Cond.fieldLink RX10 249 "EngineMonastery$House" "vigilsOf" "[I") 136 (rfl) (rfl)
theorem lkX3_24 : Cond.fieldLink RX3 24 "EngineMonastery$House" "repairs" "LEngineMonastery$Repairs;" ∈ WALL := inT1 (w := Cond.fieldLink RX3 24 "EngineMonastery$House" "repairs" "LEngineMonastery$Repairs;") 137 (rfl) (rfl)
theorem lkX10_268 : Cond.fieldLink RX10 268 "EngineMonastery$House" "repairs" "LEngineMonastery$Repairs;" ∈ WALL := inT1 (w := Cond.fieldLink RX10 268 "EngineMonastery$House" "repairs" "LEngineMonastery$Repairs;") 138 (rfl) (rfl)
theorem lkX3_31 : Cond.fieldLink RX3 31 "EngineMonastery$House" "knockBook" "LEngineMonastery$KnockBook;" ∈ WALL := inT1 (w := Cond.fieldLink RX3 31 "EngineMonastery$House" "knockBook" "LEngineMonastery$KnockBook;") 139 (rfl) (rfl)
theorem lkX10_308 : Cond.fieldLink RX10 308 "EngineMonastery$House" "knockBook" "LEngineMonastery$KnockBook;" ∈ WALL := inT1 (w := Cond.fieldLink RX10 308 "EngineMonastery$House" "knockBook" "LEngineMonastery$KnockBook;") 140 (rfl) (rfl)
theorem lkX3_43 : Cond.fieldLink RX3 43 "EngineMonastery$House" "engineCount" "I" ∈ WALL := inT1 (w := Cond.fieldLink RX3 43 "EngineMonastery$House" "engineCount" "I") 141 (rfl) (rfl)
theorem lkX10_110 : Cond.fieldLink RX10 110 "EngineMonastery$House" "engineCount" "I" ∈ WALL := inT1 (w := Cond.fieldLink RX10 110 "EngineMonastery$House" "engineCount" "I") 142 (rfl) (rfl)
theorem lkX3_62 : Cond.fieldLink RX3 62 "EngineMonastery$House" "monkCount" "I" ∈ WALL := inT1 (w := Cond.fieldLink RX3 62 "EngineMonastery$House" "monkCount" "I") 143 (rfl) (rfl)
theorem lkX3_35 : Cond.fieldLink RX3 35 "EngineMonastery$House" "store" "I" ∈ WALL := inT1 (w := Cond.fieldLink RX3 35 "EngineMonastery$House" "store" "I") 144 (rfl) (rfl)
theorem lkX10_205 : Cond.fieldLink RX10 205 "EngineMonastery$House" "store" "I" ∈ WALL := inT1 (w := Cond.fieldLink RX10 205 "EngineMonastery$House" "store" "I") 145 (rfl) (rfl)
theorem lkX3_39 : Cond.fieldLink RX3 39 "EngineMonastery$House" "initialOil" "I" ∈ WALL := inT1 (w := Cond.fieldLink RX3 39 "EngineMonastery$House" "initialOil" "I") 146 (rfl) (rfl)
theorem lkX10_211 : Cond.fieldLink RX10 211 "EngineMonastery$House" "initialOil" "I" ∈ WALL := inT1 (w := Cond.fieldLink RX10 211 "EngineMonastery$House" "initialOil" "I") 147 (rfl) (rfl)
theorem lkX3_65 : Cond.fieldLink RX3 65 "EngineMonastery$House" "boughtOil" "I" ∈ WALL := inT1 (w := Cond.fieldLink RX3 65 "EngineMonastery$House" "boughtOil" "I") 148 (rfl) (rfl)
theorem lkX10_214 : Cond.fieldLink RX10 214 "EngineMonastery$House" "boughtOil" "I" ∈ WALL := inT1 (w := Cond.fieldLink RX10 214 "EngineMonastery$House" "boughtOil" "I") 149 (rfl) (rfl)
theorem lkX3_68 : Cond.fieldLink RX3 68 "EngineMonastery$House" "burnedOil" "I" ∈ WALL := inT1 (w := Cond.fieldLink RX3 68 "EngineMonastery$House" "burnedOil" "I") 150 (rfl) (rfl)
theorem lkX10_217 : Cond.fieldLink RX10 217 "EngineMonastery$House" "burnedOil" "I" ∈ WALL := inT1 (w := Cond.fieldLink RX10 217 "EngineMonastery$House" "burnedOil" "I") 151 (rfl) (rfl)
theorem lkX3_71 : Cond.fieldLink RX3 71 "EngineMonastery$House" "hour" "I" ∈ WALL := inT1 (w := Cond.fieldLink RX3 71 "EngineMonastery$House" "hour" "I") 152 (rfl) (rfl)
theorem lkX10_305 : Cond.fieldLink RX10 305 "EngineMonastery$House" "hour" "I" ∈ WALL := inT1 (w := Cond.fieldLink RX10 305 "EngineMonastery$House" "hour" "I") 153 (rfl) (rfl)
theorem lkX3_74 : Cond.fieldLink RX3 74 "EngineMonastery$House" "penanceDone" "I" ∈ WALL := inT1 (w := Cond.fieldLink RX3 74 "EngineMonastery$House" "penanceDone" "I") 154 (rfl) (rfl)
theorem lkX10_296 : Cond.fieldLink RX10 296 "EngineMonastery$House" "penanceDone" "I" ∈ WALL := inT1 (w := Cond.fieldLink RX10 296 "EngineMonastery$House" "penanceDone" "I") 155 (rfl) (rfl)
theorem lkX10_22 : Cond.classLink RX10 22 "EngineMonastery$Past" ∈ WALL := inT1 (w := Cond.classLink RX10 22 "EngineMonastery$Past") 181 (rfl) (rfl)
theorem lkX10_24 : Cond.methodLink RX10 24 yX6_init ∈ WALL := inT1 (w := Cond.methodLink RX10 24 yX6_init) 183 (rfl) (rfl)
theorem lkX6_3 : Cond.methodLink RX6 3 Lib.objectInit ∈ WALL := inT1 (w := Cond.methodLink RX6 3 Lib.objectInit) 186 (rfl) (rfl)
theorem lkX6_9 : Cond.classLink RX6 9 "EngineMonastery$House" ∈ WALL := inT1 (w := Cond.classLink RX6 9 "EngineMonastery$House") 187 (rfl) (rfl)
theorem lkX6_17 : Cond.methodLink RX6 17 yX3_init ∈ WALL := inT1 (w := Cond.methodLink RX6 17 yX3_init) 189 (rfl) (rfl)
theorem lkX6_11 : Cond.fieldLink RX6 11 "EngineMonastery$Past" "houses" "[LEngineMonastery$House;" ∈ WALL := inT1 (w := Cond.fieldLink RX6 11 "EngineMonastery$Past" "houses" "[LEngineMonastery$House;") 190 (rfl) (rfl)
theorem lkX6_18 : Cond.fieldLink RX6 18 "EngineMonastery$Past" "next" "I" ∈ WALL := inT1 (w := Cond.fieldLink RX6 18 "EngineMonastery$Past" "next" "I") 191 (rfl) (rfl)
theorem lkX6_26 : Cond.fieldLink RX6 26 "EngineMonastery$Past" "kept" "I" ∈ WALL := inT1 (w := Cond.fieldLink RX6 26 "EngineMonastery$Past" "kept" "I") 192 (rfl) (rfl)
theorem lkX10_410 : Cond.fieldLink RX10 410 "EngineMonastery$Past" "kept" "I" ∈ WALL := inT1 (w := Cond.fieldLink RX10 410 "EngineMonastery$Past" "kept" "I") 193 (rfl) (rfl)
theorem lkX10_29 : Cond.classLink RX10 29 "EngineMonastery$EvenOrders" ∈ WALL := inT1 (w := Cond.classLink RX10 29 "EngineMonastery$EvenOrders") 201 (rfl) (rfl)
theorem lkX2_3 : Cond.methodLink RX2 3 Lib.objectInit ∈ WALL := inT1 (w := Cond.methodLink RX2 3 Lib.objectInit) 206 (rfl) (rfl)
theorem lkX2_9 : Cond.fieldLink RX2 9 "EngineMonastery$EvenOrders" "table" "[I" ∈ WALL := inT1 (w := Cond.fieldLink RX2 9 "EngineMonastery$EvenOrders" "table" "[I") 207 (rfl) (rfl)
theorem lkX2_15 : Cond.fieldLink RX2 15 "EngineMonastery$EvenOrders" "order" "[I" ∈ WALL := inT1 (w := Cond.fieldLink RX2 15 "EngineMonastery$EvenOrders" "order" "[I") 208 (rfl) (rfl)
theorem lkX10_36 : Cond.classLink RX10 36 "EngineMonastery$Rota" ∈ WALL := inT1 (w := Cond.classLink RX10 36 "EngineMonastery$Rota") 214 (rfl) (rfl)
theorem lkX9_3 : Cond.methodLink RX9 3 Lib.objectInit ∈ WALL := inT1 (w := Cond.methodLink RX9 3 Lib.objectInit) 219 (rfl) (rfl)
theorem lkX9_11 : Cond.fieldLink RX9 11 "EngineMonastery$Rota" "table" "[I" ∈ WALL := inT1 (w := Cond.fieldLink RX9 11 "EngineMonastery$Rota" "table" "[I") 220 (rfl) (rfl)
theorem lkX9_15 : Cond.fieldLink RX9 15 "EngineMonastery$Rota" "vigilKept" "[I" ∈ WALL := inT1 (w := Cond.fieldLink RX9 15 "EngineMonastery$Rota" "vigilKept" "[I") 221 (rfl) (rfl)
theorem lkX9_18 : Cond.fieldLink RX9 18 "EngineMonastery$Rota" "asked" "[I" ∈ WALL := inT1 (w := Cond.fieldLink RX9 18 "EngineMonastery$Rota" "asked" "[I") 222 (rfl) (rfl)
theorem lkX9_21 : Cond.fieldLink RX9 21 "EngineMonastery$Rota" "keepers" "[I" ∈ WALL := inT1 (w := Cond.fieldLink RX9 21 "EngineMonastery$Rota" "keepers" "[I") 223 (rfl) (rfl)
theorem lkX10_262 : Cond.fieldLink RX10 262 "EngineMonastery$Rota" "keepers" "[I" ∈ WALL := inT1 (w := Cond.fieldLink RX10 262 "EngineMonastery$Rota" "keepers" "[I") 224 (rfl) (rfl)
theorem lkX10_43 : Cond.classLink RX10 43 "EngineMonastery$Penances" ∈ WALL := inT1 (w := Cond.classLink RX10 43 "EngineMonastery$Penances") 234 (rfl) (rfl)
theorem lkX7_3 : Cond.methodLink RX7 3 Lib.objectInit ∈ WALL := inT1 (w := Cond.methodLink RX7 3 Lib.objectInit) 239 (rfl) (rfl)
theorem lkX7_9 : Cond.fieldLink RX7 9 "EngineMonastery$Penances" "queue" "[I" ∈ WALL := inT2 (w := Cond.fieldLink RX7 9 "EngineMonastery$Penances" "queue" "[I") 0 (rfl) (rfl)
theorem lkX7_15 : Cond.fieldLink RX7 15 "EngineMonastery$Penances" "table" "[I" ∈ WALL := inT2 (w := Cond.fieldLink RX7 15 "EngineMonastery$Penances" "table" "[I") 1 (rfl) (rfl)
theorem lkX10_50 : Cond.classLink RX10 50 "EngineMonastery$CommandText" ∈ WALL := inT2 (w := Cond.classLink RX10 50 "EngineMonastery$CommandText") 7 (rfl) (rfl)
theorem lkX0_3 : Cond.methodLink RX0 3 Lib.objectInit ∈ WALL := inT2 (w := Cond.methodLink RX0 3 Lib.objectInit) 12 (rfl) (rfl)
theorem lkX0_11 : Cond.fieldLink RX0 11 "EngineMonastery$CommandText" "characters" "[C" ∈ WALL := inT2 (w := Cond.fieldLink RX0 11 "EngineMonastery$CommandText" "characters" "[C") 13 (rfl) (rfl)
theorem lkX0_22 : Cond.fieldLink RX0 22 "EngineMonastery$CommandText" "length" "I" ∈ WALL := inT2 (w := Cond.fieldLink RX0 22 "EngineMonastery$CommandText" "length" "I") 14 (rfl) (rfl)
theorem lkX0_15 : Cond.fieldLink RX0 15 "EngineMonastery$CommandText" "kinds" "[I" ∈ WALL := inT2 (w := Cond.fieldLink RX0 15 "EngineMonastery$CommandText" "kinds" "[I") 15 (rfl) (rfl)
theorem lkX3_100 : Cond.fieldLink RX3 100 "EngineMonastery$CommandText" "kinds" "[I" ∈ WALL := inT2 (w := Cond.fieldLink RX3 100 "EngineMonastery$CommandText" "kinds" "[I") 16 (rfl) (rfl)
theorem lkX0_19 : Cond.fieldLink RX0 19 "EngineMonastery$CommandText" "numbers" "[I" ∈ WALL := inT2 (w := Cond.fieldLink RX0 19 "EngineMonastery$CommandText" "numbers" "[I") 17 (rfl) (rfl)
theorem lkX0_30 : Cond.fieldLink RX0 30 "EngineMonastery$CommandText" "commands" "I" ∈ WALL := inT2 (w := Cond.fieldLink RX0 30 "EngineMonastery$CommandText" "commands" "I") 18 (rfl) (rfl)
theorem lkX10_346 : Cond.fieldLink RX10 346 "EngineMonastery$CommandText" "commands" "I" ∈ WALL := inT2 (w := Cond.fieldLink RX10 346 "EngineMonastery$CommandText" "commands" "I") 19 (rfl) (rfl)
theorem lkX0_33 : Cond.fieldLink RX0 33 "EngineMonastery$CommandText" "at" "I" ∈ WALL := inT2 (w := Cond.fieldLink RX0 33 "EngineMonastery$CommandText" "at" "I") 20 (rfl) (rfl)
theorem lkX10_57 : Cond.classLink RX10 57 "EngineMonastery$Line" ∈ WALL := inT2 (w := Cond.classLink RX10 57 "EngineMonastery$Line") 35 (rfl) (rfl)
theorem lkX5_3 : Cond.methodLink RX5 3 Lib.objectInit ∈ WALL := inT2 (w := Cond.methodLink RX5 3 Lib.objectInit) 40 (rfl) (rfl)
theorem lkX5_9 : Cond.fieldLink RX5 9 "EngineMonastery$Line" "characters" "[C" ∈ WALL := inT2 (w := Cond.fieldLink RX5 9 "EngineMonastery$Line" "characters" "[C") 41 (rfl) (rfl)
theorem lkX10_375 : Cond.fieldLink RX10 375 "EngineMonastery$Line" "characters" "[C" ∈ WALL := inT2 (w := Cond.fieldLink RX10 375 "EngineMonastery$Line" "characters" "[C") 42 (rfl) (rfl)
theorem lkX5_15 : Cond.fieldLink RX5 15 "EngineMonastery$Line" "length" "I" ∈ WALL := inT2 (w := Cond.fieldLink RX5 15 "EngineMonastery$Line" "length" "I") 43 (rfl) (rfl)
theorem lkX10_372 : Cond.fieldLink RX10 372 "EngineMonastery$Line" "length" "I" ∈ WALL := inT2 (w := Cond.fieldLink RX10 372 "EngineMonastery$Line" "length" "I") 44 (rfl) (rfl)
theorem lkX10_10 : Cond.fieldLink RX10 10 "EngineMonastery" "house" "LEngineMonastery$House;" ∈ WALL := inT2 (w := Cond.fieldLink RX10 10 "EngineMonastery" "house" "LEngineMonastery$House;") 50 (rfl) (rfl)
theorem lkX10_16 : Cond.fieldLink RX10 16 "EngineMonastery" "trial" "LEngineMonastery$House;" ∈ WALL := inT2 (w := Cond.fieldLink RX10 16 "EngineMonastery" "trial" "LEngineMonastery$House;") 51 (rfl) (rfl)
theorem lkX10_19 : Cond.fieldLink RX10 19 "EngineMonastery" "snapshot" "LEngineMonastery$House;" ∈ WALL := inT2 (w := Cond.fieldLink RX10 19 "EngineMonastery" "snapshot" "LEngineMonastery$House;") 52 (rfl) (rfl)
theorem lkX10_25 : Cond.fieldLink RX10 25 "EngineMonastery" "past" "LEngineMonastery$Past;" ∈ WALL := inT2 (w := Cond.fieldLink RX10 25 "EngineMonastery" "past" "LEngineMonastery$Past;") 53 (rfl) (rfl)
theorem lkX10_32 : Cond.fieldLink RX10 32 "EngineMonastery" "orders" "LEngineMonastery$EvenOrders;" ∈ WALL := inT2 (w := Cond.fieldLink RX10 32 "EngineMonastery" "orders" "LEngineMonastery$EvenOrders;") 54 (rfl) (rfl)
theorem lkX10_39 : Cond.fieldLink RX10 39 "EngineMonastery" "rota" "LEngineMonastery$Rota;" ∈ WALL := inT2 (w := Cond.fieldLink RX10 39 "EngineMonastery" "rota" "LEngineMonastery$Rota;") 55 (rfl) (rfl)
theorem lkX10_46 : Cond.fieldLink RX10 46 "EngineMonastery" "penances" "LEngineMonastery$Penances;" ∈ WALL := inT2 (w := Cond.fieldLink RX10 46 "EngineMonastery" "penances" "LEngineMonastery$Penances;") 56 (rfl) (rfl)
theorem lkX10_53 : Cond.fieldLink RX10 53 "EngineMonastery" "text" "LEngineMonastery$CommandText;" ∈ WALL := inT2 (w := Cond.fieldLink RX10 53 "EngineMonastery" "text" "LEngineMonastery$CommandText;") 57 (rfl) (rfl)
theorem lkX10_60 : Cond.fieldLink RX10 60 "EngineMonastery" "line" "LEngineMonastery$Line;" ∈ WALL := inT2 (w := Cond.fieldLink RX10 60 "EngineMonastery" "line" "LEngineMonastery$Line;") 58 (rfl) (rfl)
theorem lkX10_64 : Cond.fieldLink RX10 64 "EngineMonastery" "borders" "[I" ∈ WALL := inT2 (w := Cond.fieldLink RX10 64 "EngineMonastery" "borders" "[I") 59 (rfl) (rfl)
theorem lkX10_68 : Cond.fieldLink RX10 68 "EngineMonastery" "lastErrorPosition" "I" ∈ WALL := inT2 (w := Cond.fieldLink RX10 68 "EngineMonastery" "lastErrorPosition" "I") 60 (rfl) (rfl)
theorem lkX10_72 : Cond.fieldLink RX10 72 "EngineMonastery" "lastFailedCommand" "I" ∈ WALL := inT2 (w := Cond.fieldLink RX10 72 "EngineMonastery" "lastFailedCommand" "I") 61 (rfl) (rfl)
theorem lkX10_415 : Cond.fieldLink RX10 415 "EngineMonastery" "hasSnapshot" "Z" ∈ WALL := inT2 (w := Cond.fieldLink RX10 415 "EngineMonastery" "hasSnapshot" "Z") 62 (rfl) (rfl)
theorem lkL_177 : Cond.methodLink RL 177 yX10_engineCount ∈ WALL := inT2 (w := Cond.methodLink RL 177 yX10_engineCount) 90 (rfl) (rfl)
theorem lkL_232 : Cond.methodLink RL 232 yX10_allOil ∈ WALL := inT2 (w := Cond.methodLink RL 232 yX10_allOil) 94 (rfl) (rfl)
theorem lkX10_208 : Cond.methodLink RX10 208 yX3_oilInCylinders ∈ WALL := inT2 (w := Cond.methodLink RX10 208 yX3_oilInCylinders) 98 (rfl) (rfl)
theorem lkX3_225 : Cond.methodLink RX3 225 yX1_sumOf ∈ WALL := inT2 (w := Cond.methodLink RX3 225 yX1_sumOf) 102 (rfl) (rfl)
theorem lkL_236 : Cond.methodLink RL 236 yX10_allOilByAccounts ∈ WALL := inT2 (w := Cond.methodLink RL 236 yX10_allOilByAccounts) 106 (rfl) (rfl)
theorem lkL_263 : Cond.methodLink RL 263 yX10_mostVigils ∈ WALL := inT2 (w := Cond.methodLink RL 263 yX10_mostVigils) 110 (rfl) (rfl)
theorem lkX10_252 : Cond.methodLink RX10 252 yX9_mostByChains ∈ WALL := inT2 (w := Cond.methodLink RX10 252 yX9_mostByChains) 114 (rfl) (rfl)
theorem lkX9_24 : Cond.methodLink RX9 24 yX9_findKeeper ∈ WALL := inT2 (w := Cond.methodLink RX9 24 yX9_findKeeper) 118 (rfl) (rfl)
theorem lkX9_28 : Cond.methodLink RX9 28 yX9_canKeep ∈ WALL := inT2 (w := Cond.methodLink RX9 28 yX9_canKeep) 121 (rfl) (rfl)
theorem lkL_267 : Cond.methodLink RL 267 yX10_mostVigilsByTable ∈ WALL := inT2 (w := Cond.methodLink RL 267 yX10_mostVigilsByTable) 124 (rfl) (rfl)
theorem lkX10_255 : Cond.methodLink RX10 255 yX9_mostByTable ∈ WALL := inT2 (w := Cond.methodLink RX10 255 yX9_mostByTable) 128 (rfl) (rfl)
theorem lkX9_32 : Cond.methodLink RX9 32 yX9_mostFrom ∈ WALL := inT2 (w := Cond.methodLink RX9 32 yX9_mostFrom) 132 (rfl) (rfl)
theorem lkX9_36 : Cond.methodLink RX9 36 yX9_isFree ∈ WALL := inT2 (w := Cond.methodLink RX9 36 yX9_isFree) 136 (rfl) (rfl)
theorem lkX9_40 : Cond.methodLink RX9 40 yJ9_max_7cf53 ∈ WALL := inT2 (w := Cond.methodLink RX9 40 yJ9_max_7cf53) 139 (rfl) (rfl)
theorem lkL_280 : Cond.methodLink RL 280 yX10_repairCount ∈ WALL := inT2 (w := Cond.methodLink RL 280 yX10_repairCount) 142 (rfl) (rfl)
theorem lkL_284 : Cond.methodLink RL 284 yX10_leastPenance ∈ WALL := inT2 (w := Cond.methodLink RL 284 yX10_leastPenance) 146 (rfl) (rfl)
theorem lkX10_283 : Cond.methodLink RX10 283 yX7_leastByQueue ∈ WALL := inT2 (w := Cond.methodLink RX10 283 yX7_leastByQueue) 150 (rfl) (rfl)
theorem lkX7_24 : Cond.methodLink RX7 24 yX7_queueUp ∈ WALL := inT2 (w := Cond.methodLink RX7 24 yX7_queueUp) 154 (rfl) (rfl)
theorem lkX7_34 : Cond.methodLink RX7 34 yX8_isBefore ∈ WALL := inT2 (w := Cond.methodLink RX7 34 yX8_isBefore) 158 (rfl) (rfl)
theorem lkL_288 : Cond.methodLink RL 288 yX10_leastPenanceByTable ∈ WALL := inT2 (w := Cond.methodLink RL 288 yX10_leastPenanceByTable) 162 (rfl) (rfl)
theorem lkX10_287 : Cond.methodLink RX10 287 yX7_leastBySets ∈ WALL := inT2 (w := Cond.methodLink RX10 287 yX7_leastBySets) 166 (rfl) (rfl)
theorem lkX7_38 : Cond.methodLink RX7 38 yX7_leastOfSet ∈ WALL := inT2 (w := Cond.methodLink RX7 38 yX7_leastOfSet) 170 (rfl) (rfl)
theorem lkX7_42 : Cond.methodLink RX7 42 yX7_hoursOf ∈ WALL := inT2 (w := Cond.methodLink RX7 42 yX7_hoursOf) 174 (rfl) (rfl)
theorem lkX7_45 : Cond.methodLink RX7 45 yJ9_min_7cf53 ∈ WALL := inT2 (w := Cond.methodLink RX7 45 yJ9_min_7cf53) 177 (rfl) (rfl)
theorem lkL_295 : Cond.methodLink RL 295 yX10_penanceDone ∈ WALL := inT2 (w := Cond.methodLink RL 295 yX10_penanceDone) 180 (rfl) (rfl)
theorem lkL_302 : Cond.methodLink RL 302 yX10_hour ∈ WALL := inT2 (w := Cond.methodLink RL 302 yX10_hour) 184 (rfl) (rfl)
theorem lkL_328 : Cond.methodLink RL 328 yX10_describeRota ∈ WALL := inT2 (w := Cond.methodLink RL 328 yX10_describeRota) 188 (rfl) (rfl)
theorem lkX10_258 : Cond.methodLink RX10 258 yX9_findBest ∈ WALL := inT2 (w := Cond.methodLink RX10 258 yX9_findBest) 192 (rfl) (rfl)
theorem lkX9_46 : Cond.methodLink RX9 46 yX9_mostByTable ∈ WALL := inT2 (w := Cond.methodLink RX9 46 yX9_mostByTable) 196 (rfl) (rfl)
theorem lkX9_50 : Cond.methodLink RX9 50 yX9_lowestKeeper ∈ WALL := inT2 (w := Cond.methodLink RX9 50 yX9_lowestKeeper) 197 (rfl) (rfl)
theorem lkX10_360 : Cond.methodLink RX10 360 yX5_empty ∈ WALL := inT2 (w := Cond.methodLink RX10 360 yX5_empty) 201 (rfl) (rfl)
theorem lkX10_364 : Cond.methodLink RX10 364 yX5_write ∈ WALL := inT2 (w := Cond.methodLink RX10 364 yX5_write) 205 (rfl) (rfl)
theorem lkX10_361 : Cond.methodLink RX10 361 yX5_writeDigit ∈ WALL := inT2 (w := Cond.methodLink RX10 361 yX5_writeDigit) 209 (rfl) (rfl)
theorem lkX5_19 : Cond.methodLink RX5 19 yX5_write ∈ WALL := inT2 (w := Cond.methodLink RX5 19 yX5_write) 213 (rfl) (rfl)
theorem lkL_339 : Cond.methodLink RL 339 yX10_vigilShare ∈ WALL := inT2 (w := Cond.methodLink RL 339 yX10_vigilShare) 214 (rfl) (rfl)
theorem lkX10_385 : Cond.constantFloat RX10 385 (1090519040) ∈ WALL := inT2 (w := Cond.constantFloat RX10 385 (1090519040)) 218 (rfl) (rfl)
theorem lkL_344 : Cond.methodLink RL 344 yX10_isConsistent ∈ WALL := inT2 (w := Cond.methodLink RL 344 yX10_isConsistent) 219 (rfl) (rfl)
theorem lkX10_386 : Cond.methodLink RX10 386 yX10_enginesAgree ∈ WALL := inT2 (w := Cond.methodLink RX10 386 yX10_enginesAgree) 223 (rfl) (rfl)
theorem lkX10_442 : Cond.methodLink RX10 442 yX10_turnOf ∈ WALL := inT2 (w := Cond.methodLink RX10 442 yX10_turnOf) 227 (rfl) (rfl)
theorem lkX10_113 : Cond.methodLink RX10 113 yX10_existing ∈ WALL := inT2 (w := Cond.methodLink RX10 113 yX10_existing) 231 (rfl) (rfl)
theorem lkX10_422 : Cond.methodLink RX10 422 yX3_hasEngine ∈ WALL := inT2 (w := Cond.methodLink RX10 422 yX3_hasEngine) 235 (rfl) (rfl)
theorem lkX10_124 : Cond.methodLink RX10 124 yX10_requireIndex ∈ WALL := inT3 (w := Cond.methodLink RX10 124 yX10_requireIndex) 2 (rfl) (rfl)
theorem lkX10_425 : Cond.classLink RX10 425 "java/lang/IndexOutOfBoundsException" ∈ WALL := inT3 (w := Cond.classLink RX10 425 "java/lang/IndexOutOfBoundsException") 5 (rfl) (rfl)
theorem lkX10_144 : Cond.methodLink RX10 144 yX1_turnByCycles ∈ WALL := inT3 (w := Cond.methodLink RX10 144 yX1_turnByCycles) 72 (rfl) (rfl)
theorem lkX1_54 : Cond.methodLink RX1 54 yX1_cycleFrom ∈ WALL := inT3 (w := Cond.methodLink RX1 54 yX1_cycleFrom) 76 (rfl) (rfl)
theorem lkX1_57 : Cond.methodLink RX1 57 yX1_leastCommonMultiple ∈ WALL := inT3 (w := Cond.methodLink RX1 57 yX1_leastCommonMultiple) 80 (rfl) (rfl)
theorem lkX10_445 : Cond.methodLink RX10 445 yX10_turnByRepeating ∈ WALL := inT3 (w := Cond.methodLink RX10 445 yX10_turnByRepeating) 83 (rfl) (rfl)
theorem lkX10_148 : Cond.methodLink RX10 148 yX1_turnBySteps ∈ WALL := inT3 (w := Cond.methodLink RX10 148 yX1_turnBySteps) 87 (rfl) (rfl)
theorem lkX1_61 : Cond.methodLink RX1 61 yX1_leadsBackAfter ∈ WALL := inT3 (w := Cond.methodLink RX1 61 yX1_leadsBackAfter) 91 (rfl) (rfl)
theorem lkX10_448 : Cond.methodLink RX10 448 yX10_evenOrders ∈ WALL := inT3 (w := Cond.methodLink RX10 448 yX10_evenOrders) 95 (rfl) (rfl)
theorem lkX10_131 : Cond.methodLink RX10 131 yX10_isWithin ∈ WALL := inT3 (w := Cond.methodLink RX10 131 yX10_isWithin) 99 (rfl) (rfl)
theorem lkX10_135 : Cond.methodLink RX10 135 yX10_requireArgument ∈ WALL := inT3 (w := Cond.methodLink RX10 135 yX10_requireArgument) 100 (rfl) (rfl)
theorem lkX10_343 : Cond.classLink RX10 343 "java/lang/IllegalArgumentException" ∈ WALL := inT3 (w := Cond.classLink RX10 343 "java/lang/IllegalArgumentException") 103 (rfl) (rfl)
theorem lkX10_154 : Cond.methodLink RX10 154 yX2_countByTable ∈ WALL := inT3 (w := Cond.methodLink RX10 154 yX2_countByTable) 118 (rfl) (rfl)
theorem lkX2_18 : Cond.methodLink RX2 18 yX2_goOn ∈ WALL := inT3 (w := Cond.methodLink RX2 18 yX2_goOn) 122 (rfl) (rfl)
theorem lkX10_431 : Cond.methodLink RX10 431 yJ9_abs_0f7a4 ∈ WALL := inT3 (w := Cond.methodLink RX10 431 yJ9_abs_0f7a4) 129 (rfl) (rfl)
theorem lkX10_436 : Cond.methodLink RX10 436 yJ9_min_7cf53 ∈ WALL := inT3 (w := Cond.methodLink RX10 436 yJ9_min_7cf53) 132 (rfl) (rfl)
theorem lkX2_22 : Cond.methodLink RX2 22 yX2_sumOfEnds ∈ WALL := inT3 (w := Cond.methodLink RX2 22 yX2_sumOfEnds) 133 (rfl) (rfl)
theorem lkX10_451 : Cond.methodLink RX10 451 yX10_evenOrdersByTrying ∈ WALL := inT3 (w := Cond.methodLink RX10 451 yX10_evenOrdersByTrying) 137 (rfl) (rfl)
theorem lkX10_157 : Cond.methodLink RX10 157 yX2_countBySwapping ∈ WALL := inT3 (w := Cond.methodLink RX10 157 yX2_countBySwapping) 141 (rfl) (rfl)
theorem lkX2_30 : Cond.methodLink RX2 30 yX2_countFrom ∈ WALL := inT3 (w := Cond.methodLink RX2 30 yX2_countFrom) 145 (rfl) (rfl)
theorem lkX10_454 : Cond.methodLink RX10 454 yX10_knockCount ∈ WALL := inT3 (w := Cond.methodLink RX10 454 yX10_knockCount) 148 (rfl) (rfl)
theorem lkX10_457 : Cond.methodLink RX10 457 yX10_knockPeriod ∈ WALL := inT3 (w := Cond.methodLink RX10 457 yX10_knockPeriod) 152 (rfl) (rfl)
theorem lkX10_178 : Cond.methodLink RX10 178 yX10_requireElement ∈ WALL := inT3 (w := Cond.methodLink RX10 178 yX10_requireElement) 156 (rfl) (rfl)
theorem lkX10_428 : Cond.classLink RX10 428 "java/util/NoSuchElementException" ∈ WALL := inT3 (w := Cond.classLink RX10 428 "java/util/NoSuchElementException") 159 (rfl) (rfl)
theorem lkX10_226 : Cond.methodLink RX10 226 yX1_periodByBorders ∈ WALL := inT3 (w := Cond.methodLink RX10 226 yX1_periodByBorders) 174 (rfl) (rfl)
theorem lkX1_78 : Cond.methodLink RX1 78 yX1_keptKnock ∈ WALL := inT3 (w := Cond.methodLink RX1 78 yX1_keptKnock) 178 (rfl) (rfl)
theorem lkX10_460 : Cond.methodLink RX10 460 yX10_knockPeriodByTrying ∈ WALL := inT3 (w := Cond.methodLink RX10 460 yX10_knockPeriodByTrying) 182 (rfl) (rfl)
theorem lkX10_230 : Cond.methodLink RX10 230 yX1_periodByTrials ∈ WALL := inT3 (w := Cond.methodLink RX10 230 yX1_periodByTrials) 186 (rfl) (rfl)
theorem lkX1_81 : Cond.methodLink RX1 81 yX1_repeatsAfter ∈ WALL := inT3 (w := Cond.methodLink RX1 81 yX1_repeatsAfter) 190 (rfl) (rfl)
theorem lkX10_389 : Cond.methodLink RX10 389 yX10_oilAgrees ∈ WALL := inT3 (w := Cond.methodLink RX10 389 yX10_oilAgrees) 194 (rfl) (rfl)
theorem lkX10_463 : Cond.methodLink RX10 463 yX10_leastOilAfter ∈ WALL := inT3 (w := Cond.methodLink RX10 463 yX10_leastOilAfter) 198 (rfl) (rfl)
theorem lkX10_181 : Cond.methodLink RX10 181 yX3_levelByFilling ∈ WALL := inT3 (w := Cond.methodLink RX10 181 yX3_levelByFilling) 202 (rfl) (rfl)
theorem lkX3_196 : Cond.methodLink RX3 196 yX3_leastOil ∈ WALL := inT3 (w := Cond.methodLink RX3 196 yX3_leastOil) 206 (rfl) (rfl)
theorem lkX3_199 : Cond.methodLink RX3 199 yX3_driestSpot ∈ WALL := inT3 (w := Cond.methodLink RX3 199 yX3_driestSpot) 210 (rfl) (rfl)
theorem lkX3_229 : Cond.methodLink RX3 229 yX3_cylindersUpTo ∈ WALL := inT3 (w := Cond.methodLink RX3 229 yX3_cylindersUpTo) 214 (rfl) (rfl)
theorem lkX3_232 : Cond.methodLink RX3 232 yX3_leastOilAbove ∈ WALL := inT3 (w := Cond.methodLink RX3 232 yX3_leastOilAbove) 218 (rfl) (rfl)
theorem lkX10_466 : Cond.methodLink RX10 466 yX10_leastOilAfterByGiving ∈ WALL := inT3 (w := Cond.methodLink RX10 466 yX10_leastOilAfterByGiving) 222 (rfl) (rfl)
theorem lkX10_184 : Cond.methodLink RX10 184 yX3_become ∈ WALL := inT3 (w := Cond.methodLink RX10 184 yX3_become) 226 (rfl) (rfl)
theorem lkX3_46 : Cond.methodLink RX3 46 yX1_become ∈ WALL := inT3 (w := Cond.methodLink RX3 46 yX1_become) 230 (rfl) (rfl)
theorem lkX1_40 : Cond.methodLink RX1 40 arraycopyName ∈ WALL := inT3 (w := Cond.methodLink RX1 40 arraycopyName) 234 (rfl) (rfl)
theorem lkX3_50 : Cond.methodLink RX3 50 arraycopyName ∈ WALL := inT3 (w := Cond.methodLink RX3 50 arraycopyName) 237 (rfl) (rfl)
theorem lkX3_56 : Cond.methodLink RX3 56 yX8_become ∈ WALL := inT3 (w := Cond.methodLink RX3 56 yX8_become) 238 (rfl) (rfl)
theorem lkX8_21 : Cond.methodLink RX8 21 arraycopyName ∈ WALL := inT4 (w := Cond.methodLink RX8 21 arraycopyName) 2 (rfl) (rfl)
theorem lkX3_59 : Cond.methodLink RX3 59 yX4_become ∈ WALL := inT4 (w := Cond.methodLink RX3 59 yX4_become) 3 (rfl) (rfl)
theorem lkX4_18 : Cond.methodLink RX4 18 arraycopyName ∈ WALL := inT4 (w := Cond.methodLink RX4 18 arraycopyName) 7 (rfl) (rfl)
theorem lkX10_187 : Cond.methodLink RX10 187 yX3_giveToDriest ∈ WALL := inT4 (w := Cond.methodLink RX10 187 yX3_giveToDriest) 8 (rfl) (rfl)
theorem lkX10_190 : Cond.methodLink RX10 190 yX3_leastOil ∈ WALL := inT4 (w := Cond.methodLink RX10 190 yX3_leastOil) 12 (rfl) (rfl)
theorem lkX10_392 : Cond.methodLink RX10 392 yX10_mostVigils ∈ WALL := inT4 (w := Cond.methodLink RX10 392 yX10_mostVigils) 13 (rfl) (rfl)
theorem lkX10_395 : Cond.methodLink RX10 395 yX10_mostVigilsByTable ∈ WALL := inT4 (w := Cond.methodLink RX10 395 yX10_mostVigilsByTable) 14 (rfl) (rfl)
theorem lkX10_398 : Cond.methodLink RX10 398 yX10_leastPenance ∈ WALL := inT4 (w := Cond.methodLink RX10 398 yX10_leastPenance) 15 (rfl) (rfl)
theorem lkX10_401 : Cond.methodLink RX10 401 yX10_leastPenanceByTable ∈ WALL := inT4 (w := Cond.methodLink RX10 401 yX10_leastPenanceByTable) 16 (rfl) (rfl)
theorem lkX10_404 : Cond.methodLink RX10 404 yX10_allOil ∈ WALL := inT4 (w := Cond.methodLink RX10 404 yX10_allOil) 17 (rfl) (rfl)
theorem lkX10_407 : Cond.methodLink RX10 407 yX10_allOilByAccounts ∈ WALL := inT4 (w := Cond.methodLink RX10 407 yX10_allOilByAccounts) 18 (rfl) (rfl)
theorem lkL_352 : Cond.methodLink RL 352 yX10_save ∈ WALL := inT4 (w := Cond.methodLink RL 352 yX10_save) 19 (rfl) (rfl)
theorem lkL_160 : Cond.methodLink RL 160 yL_addEngine ∈ WALL := inT4 (w := Cond.methodLink RL 160 yL_addEngine) 23 (rfl) (rfl)
theorem lkL_13 : Cond.classLink RL 13 "java/lang/IllegalArgumentException" ∈ WALL := inT4 (w := Cond.classLink RL 13 "java/lang/IllegalArgumentException") 26 (rfl) (rfl)
theorem lkL_15 : Cond.classLink RL 15 "java/lang/IllegalStateException" ∈ WALL := inT4 (w := Cond.classLink RL 15 "java/lang/IllegalStateException") 27 (rfl) (rfl)
theorem lkL_7 : Cond.methodLink RL 7 yX10_addEngine ∈ WALL := inT4 (w := Cond.methodLink RL 7 yX10_addEngine) 28 (rfl) (rfl)
theorem lkX10_75 : Cond.methodLink RX10 75 yX3_faultOfEngine ∈ WALL := inT4 (w := Cond.methodLink RX10 75 yX3_faultOfEngine) 32 (rfl) (rfl)
theorem lkX10_79 : Cond.methodLink RX10 79 yX10_refuse ∈ WALL := inT4 (w := Cond.methodLink RX10 79 yX10_refuse) 36 (rfl) (rfl)
theorem lkX10_330 : Cond.methodLink RX10 330 yX10_requireState ∈ WALL := inT4 (w := Cond.methodLink RX10 330 yX10_requireState) 39 (rfl) (rfl)
theorem lkX10_353 : Cond.classLink RX10 353 "java/lang/IllegalStateException" ∈ WALL := inT4 (w := Cond.classLink RX10 353 "java/lang/IllegalStateException") 42 (rfl) (rfl)
theorem lkX10_83 : Cond.methodLink RX10 83 yX6_keep ∈ WALL := inT4 (w := Cond.methodLink RX10 83 yX6_keep) 57 (rfl) (rfl)
theorem lkX6_22 : Cond.methodLink RX6 22 yX3_become ∈ WALL := inT4 (w := Cond.methodLink RX6 22 yX3_become) 61 (rfl) (rfl)
theorem lkX6_29 : Cond.methodLink RX6 29 yJ9_min_7cf53 ∈ WALL := inT4 (w := Cond.methodLink RX6 29 yJ9_min_7cf53) 62 (rfl) (rfl)
theorem lkX10_87 : Cond.methodLink RX10 87 yX3_buildEngine ∈ WALL := inT4 (w := Cond.methodLink RX10 87 yX3_buildEngine) 63 (rfl) (rfl)
theorem lkX3_179 : Cond.methodLink RX3 179 yX1_begin ∈ WALL := inT4 (w := Cond.methodLink RX3 179 yX1_begin) 67 (rfl) (rfl)
theorem lkL_169 : Cond.methodLink RL 169 yL_exchange ∈ WALL := inT4 (w := Cond.methodLink RL 169 yL_exchange) 71 (rfl) (rfl)
theorem lkL_21 : Cond.classLink RL 21 "java/lang/IndexOutOfBoundsException" ∈ WALL := inT4 (w := Cond.classLink RL 21 "java/lang/IndexOutOfBoundsException") 74 (rfl) (rfl)
theorem lkL_17 : Cond.methodLink RL 17 yX10_exchange ∈ WALL := inT4 (w := Cond.methodLink RL 17 yX10_exchange) 107 (rfl) (rfl)
theorem lkX10_90 : Cond.methodLink RX10 90 yX3_faultOfExchange ∈ WALL := inT4 (w := Cond.methodLink RX10 90 yX3_faultOfExchange) 111 (rfl) (rfl)
theorem lkX3_88 : Cond.methodLink RX3 88 yX3_hasCylinder ∈ WALL := inT4 (w := Cond.methodLink RX3 88 yX3_hasCylinder) 115 (rfl) (rfl)
theorem lkX3_81 : Cond.methodLink RX3 81 yX3_hasEngine ∈ WALL := inT4 (w := Cond.methodLink RX3 81 yX3_hasEngine) 119 (rfl) (rfl)
theorem lkX3_85 : Cond.methodLink RX3 85 yX1_hasCylinder ∈ WALL := inT4 (w := Cond.methodLink RX3 85 yX1_hasCylinder) 120 (rfl) (rfl)
theorem lkX10_98 : Cond.methodLink RX10 98 yX1_swapPlaces ∈ WALL := inT4 (w := Cond.methodLink RX10 98 yX1_swapPlaces) 125 (rfl) (rfl)
theorem lkL_173 : Cond.methodLink RL 173 yL_setRate ∈ WALL := inT4 (w := Cond.methodLink RL 173 yL_setRate) 129 (rfl) (rfl)
theorem lkL_23 : Cond.methodLink RL 23 yX10_setRate ∈ WALL := inT4 (w := Cond.methodLink RL 23 yX10_setRate) 132 (rfl) (rfl)
theorem lkX10_104 : Cond.methodLink RX10 104 yX3_faultOfRate ∈ WALL := inT4 (w := Cond.methodLink RX10 104 yX3_faultOfRate) 136 (rfl) (rfl)
theorem lkX10_107 : Cond.methodLink RX10 107 yX1_changeRate ∈ WALL := inT4 (w := Cond.methodLink RX10 107 yX1_changeRate) 140 (rfl) (rfl)
theorem lkL_181 : Cond.methodLink RL 181 yL_cylinderCount ∈ WALL := inT4 (w := Cond.methodLink RL 181 yL_cylinderCount) 144 (rfl) (rfl)
theorem lkL_27 : Cond.methodLink RL 27 yX10_cylinderCount ∈ WALL := inT4 (w := Cond.methodLink RL 27 yX10_cylinderCount) 147 (rfl) (rfl)
theorem lkL_184 : Cond.methodLink RL 184 yL_orderAt ∈ WALL := inT4 (w := Cond.methodLink RL 184 yL_orderAt) 151 (rfl) (rfl)
theorem lkL_30 : Cond.methodLink RL 30 yX10_orderAt ∈ WALL := inT4 (w := Cond.methodLink RL 30 yX10_orderAt) 154 (rfl) (rfl)
theorem lkX10_120 : Cond.methodLink RX10 120 yX1_hasCylinder ∈ WALL := inT4 (w := Cond.methodLink RX10 120 yX1_hasCylinder) 158 (rfl) (rfl)
theorem lkL_187 : Cond.methodLink RL 187 yL_dueAfter ∈ WALL := inT4 (w := Cond.methodLink RL 187 yL_dueAfter) 159 (rfl) (rfl)
theorem lkL_33 : Cond.methodLink RL 33 yX10_dueAfter ∈ WALL := inT4 (w := Cond.methodLink RL 33 yX10_dueAfter) 162 (rfl) (rfl)
theorem lkX10_138 : Cond.methodLink RX10 138 yX1_dueByDivision ∈ WALL := inT4 (w := Cond.methodLink RX10 138 yX1_dueByDivision) 166 (rfl) (rfl)
theorem lkL_190 : Cond.methodLink RL 190 yL_dueAfterByStrokes ∈ WALL := inT4 (w := Cond.methodLink RL 190 yL_dueAfterByStrokes) 170 (rfl) (rfl)
theorem lkL_36 : Cond.methodLink RL 36 yX10_dueAfterByStrokes ∈ WALL := inT4 (w := Cond.methodLink RL 36 yX10_dueAfterByStrokes) 173 (rfl) (rfl)
theorem lkX10_141 : Cond.methodLink RX10 141 yX1_dueByCounting ∈ WALL := inT4 (w := Cond.methodLink RX10 141 yX1_dueByCounting) 177 (rfl) (rfl)
theorem lkX1_50 : Cond.methodLink RX1 50 yX1_placeAfter ∈ WALL := inT4 (w := Cond.methodLink RX1 50 yX1_placeAfter) 181 (rfl) (rfl)
theorem lkL_193 : Cond.methodLink RL 193 yL_turnOf ∈ WALL := inT4 (w := Cond.methodLink RL 193 yL_turnOf) 185 (rfl) (rfl)
theorem lkL_39 : Cond.methodLink RL 39 yX10_turnOf ∈ WALL := inT4 (w := Cond.methodLink RL 39 yX10_turnOf) 188 (rfl) (rfl)
theorem lkL_196 : Cond.methodLink RL 196 yL_turnByRepeating ∈ WALL := inT4 (w := Cond.methodLink RL 196 yL_turnByRepeating) 189 (rfl) (rfl)
theorem lkL_42 : Cond.methodLink RL 42 yX10_turnByRepeating ∈ WALL := inT4 (w := Cond.methodLink RL 42 yX10_turnByRepeating) 192 (rfl) (rfl)
theorem lkL_199 : Cond.methodLink RL 199 yL_evenness ∈ WALL := inT4 (w := Cond.methodLink RL 199 yL_evenness) 193 (rfl) (rfl)
theorem lkL_45 : Cond.methodLink RL 45 yX10_evenness ∈ WALL := inT4 (w := Cond.methodLink RL 45 yX10_evenness) 196 (rfl) (rfl)
theorem lkX10_151 : Cond.methodLink RX10 151 yX1_leastDistance ∈ WALL := inT4 (w := Cond.methodLink RX10 151 yX1_leastDistance) 200 (rfl) (rfl)
theorem lkX1_69 : Cond.methodLink RX1 69 yJ9_min_7cf53 ∈ WALL := inT4 (w := Cond.methodLink RX1 69 yJ9_min_7cf53) 205 (rfl) (rfl)
theorem lkL_202 : Cond.methodLink RL 202 yL_evenOrders ∈ WALL := inT4 (w := Cond.methodLink RL 202 yL_evenOrders) 206 (rfl) (rfl)
theorem lkL_48 : Cond.methodLink RL 48 yX10_evenOrders ∈ WALL := inT4 (w := Cond.methodLink RL 48 yX10_evenOrders) 209 (rfl) (rfl)
theorem lkL_205 : Cond.methodLink RL 205 yL_evenOrdersByTrying ∈ WALL := inT4 (w := Cond.methodLink RL 205 yL_evenOrdersByTrying) 210 (rfl) (rfl)
theorem lkL_51 : Cond.methodLink RL 51 yX10_evenOrdersByTrying ∈ WALL := inT4 (w := Cond.methodLink RL 51 yX10_evenOrdersByTrying) 213 (rfl) (rfl)
theorem lkL_208 : Cond.methodLink RL 208 yL_run ∈ WALL := inT4 (w := Cond.methodLink RL 208 yL_run) 214 (rfl) (rfl)
theorem lkL_54 : Cond.methodLink RL 54 yX10_run ∈ WALL := inT4 (w := Cond.methodLink RL 54 yX10_run) 217 (rfl) (rfl)
theorem lkX10_160 : Cond.methodLink RX10 160 yX3_faultOfRun ∈ WALL := inT4 (w := Cond.methodLink RX10 160 yX3_faultOfRun) 221 (rfl) (rfl)
theorem lkX10_163 : Cond.methodLink RX10 163 yX3_runEngine ∈ WALL := inT4 (w := Cond.methodLink RX10 163 yX3_runEngine) 225 (rfl) (rfl)
theorem lkX3_183 : Cond.methodLink RX3 183 yX1_turnOver ∈ WALL := inT4 (w := Cond.methodLink RX3 183 yX1_turnOver) 229 (rfl) (rfl)
theorem lkX1_74 : Cond.methodLink RX1 74 yX1_keepKnock ∈ WALL := inT4 (w := Cond.methodLink RX1 74 yX1_keepKnock) 233 (rfl) (rfl)
theorem lkX3_186 : Cond.methodLink RX3 186 yX4_note ∈ WALL := inT4 (w := Cond.methodLink RX3 186 yX4_note) 237 (rfl) (rfl)
theorem lkX4_28 : Cond.methodLink RX4 28 yX4_openHour ∈ WALL := inT5 (w := Cond.methodLink RX4 28 yX4_openHour) 1 (rfl) (rfl)
theorem lkL_211 : Cond.methodLink RL 211 yL_oil ∈ WALL := inT5 (w := Cond.methodLink RL 211 yL_oil) 5 (rfl) (rfl)
theorem lkL_57 : Cond.methodLink RL 57 yX10_oil ∈ WALL := inT5 (w := Cond.methodLink RL 57 yX10_oil) 8 (rfl) (rfl)
theorem lkX10_166 : Cond.methodLink RX10 166 yX3_faultOfOil ∈ WALL := inT5 (w := Cond.methodLink RX10 166 yX3_faultOfOil) 12 (rfl) (rfl)
theorem lkX10_169 : Cond.methodLink RX10 169 yX3_giveOil ∈ WALL := inT5 (w := Cond.methodLink RX10 169 yX3_giveOil) 16 (rfl) (rfl)
theorem lkL_214 : Cond.methodLink RL 214 yL_oilDriest ∈ WALL := inT5 (w := Cond.methodLink RL 214 yL_oilDriest) 20 (rfl) (rfl)
theorem lkL_60 : Cond.methodLink RL 60 yX10_oilDriest ∈ WALL := inT5 (w := Cond.methodLink RL 60 yX10_oilDriest) 23 (rfl) (rfl)
theorem lkX10_172 : Cond.methodLink RX10 172 yX3_faultOfFill ∈ WALL := inT5 (w := Cond.methodLink RX10 172 yX3_faultOfFill) 27 (rfl) (rfl)
theorem lkX10_175 : Cond.methodLink RX10 175 yX3_fillFromStore ∈ WALL := inT5 (w := Cond.methodLink RX10 175 yX3_fillFromStore) 31 (rfl) (rfl)
theorem lkX3_193 : Cond.methodLink RX3 193 yX3_giveToDriest ∈ WALL := inT5 (w := Cond.methodLink RX3 193 yX3_giveToDriest) 35 (rfl) (rfl)
theorem lkL_217 : Cond.methodLink RL 217 yL_leastOilAfter ∈ WALL := inT5 (w := Cond.methodLink RL 217 yL_leastOilAfter) 36 (rfl) (rfl)
theorem lkL_66 : Cond.classLink RL 66 "java/util/NoSuchElementException" ∈ WALL := inT5 (w := Cond.classLink RL 66 "java/util/NoSuchElementException") 39 (rfl) (rfl)
theorem lkL_63 : Cond.methodLink RL 63 yX10_leastOilAfter ∈ WALL := inT5 (w := Cond.methodLink RL 63 yX10_leastOilAfter) 40 (rfl) (rfl)
theorem lkL_220 : Cond.methodLink RL 220 yL_leastOilAfterByGiving ∈ WALL := inT5 (w := Cond.methodLink RL 220 yL_leastOilAfterByGiving) 41 (rfl) (rfl)
theorem lkL_68 : Cond.methodLink RL 68 yX10_leastOilAfterByGiving ∈ WALL := inT5 (w := Cond.methodLink RL 68 yX10_leastOilAfterByGiving) 44 (rfl) (rfl)
theorem lkL_223 : Cond.methodLink RL 223 yL_buyOil ∈ WALL := inT5 (w := Cond.methodLink RL 223 yL_buyOil) 45 (rfl) (rfl)
theorem lkL_71 : Cond.methodLink RL 71 yX10_buyOil ∈ WALL := inT5 (w := Cond.methodLink RL 71 yX10_buyOil) 48 (rfl) (rfl)
theorem lkX10_193 : Cond.methodLink RX10 193 yX3_faultOfPurchase ∈ WALL := inT5 (w := Cond.methodLink RX10 193 yX3_faultOfPurchase) 52 (rfl) (rfl)
theorem lkX10_196 : Cond.methodLink RX10 196 yX3_buyUnits ∈ WALL := inT5 (w := Cond.methodLink RX10 196 yX3_buyUnits) 56 (rfl) (rfl)
theorem lkL_226 : Cond.methodLink RL 226 yL_oilOf ∈ WALL := inT5 (w := Cond.methodLink RL 226 yL_oilOf) 60 (rfl) (rfl)
theorem lkL_74 : Cond.methodLink RL 74 yX10_oilOf ∈ WALL := inT5 (w := Cond.methodLink RL 74 yX10_oilOf) 63 (rfl) (rfl)
theorem lkL_229 : Cond.methodLink RL 229 yL_wearOf ∈ WALL := inT5 (w := Cond.methodLink RL 229 yL_wearOf) 67 (rfl) (rfl)
theorem lkL_77 : Cond.methodLink RL 77 yX10_wearOf ∈ WALL := inT5 (w := Cond.methodLink RL 77 yX10_wearOf) 70 (rfl) (rfl)
theorem lkL_240 : Cond.methodLink RL 240 yL_knockCount ∈ WALL := inT5 (w := Cond.methodLink RL 240 yL_knockCount) 74 (rfl) (rfl)
theorem lkL_80 : Cond.methodLink RL 80 yX10_knockCount ∈ WALL := inT5 (w := Cond.methodLink RL 80 yX10_knockCount) 77 (rfl) (rfl)
theorem lkL_243 : Cond.methodLink RL 243 yL_knockAt ∈ WALL := inT5 (w := Cond.methodLink RL 243 yL_knockAt) 78 (rfl) (rfl)
theorem lkL_83 : Cond.methodLink RL 83 yX10_knockAt ∈ WALL := inT5 (w := Cond.methodLink RL 83 yX10_knockAt) 81 (rfl) (rfl)
theorem lkX10_223 : Cond.methodLink RX10 223 yX1_keptKnock ∈ WALL := inT5 (w := Cond.methodLink RX10 223 yX1_keptKnock) 85 (rfl) (rfl)
theorem lkL_246 : Cond.methodLink RL 246 yL_knockPeriod ∈ WALL := inT5 (w := Cond.methodLink RL 246 yL_knockPeriod) 86 (rfl) (rfl)
theorem lkL_86 : Cond.methodLink RL 86 yX10_knockPeriod ∈ WALL := inT5 (w := Cond.methodLink RL 86 yX10_knockPeriod) 89 (rfl) (rfl)
theorem lkL_249 : Cond.methodLink RL 249 yL_knockPeriodByTrying ∈ WALL := inT5 (w := Cond.methodLink RL 249 yL_knockPeriodByTrying) 90 (rfl) (rfl)
theorem lkL_89 : Cond.methodLink RL 89 yX10_knockPeriodByTrying ∈ WALL := inT5 (w := Cond.methodLink RL 89 yX10_knockPeriodByTrying) 93 (rfl) (rfl)
theorem lkL_252 : Cond.methodLink RL 252 yL_engineAtRank ∈ WALL := inT5 (w := Cond.methodLink RL 252 yL_engineAtRank) 94 (rfl) (rfl)
theorem lkL_92 : Cond.methodLink RL 92 yX10_engineAtRank ∈ WALL := inT5 (w := Cond.methodLink RL 92 yX10_engineAtRank) 97 (rfl) (rfl)
theorem lkX10_233 : Cond.methodLink RX10 233 yX3_engineOfRank ∈ WALL := inT5 (w := Cond.methodLink RX10 233 yX3_engineOfRank) 101 (rfl) (rfl)
theorem lkX3_235 : Cond.methodLink RX3 235 yX3_enginesBefore ∈ WALL := inT5 (w := Cond.methodLink RX3 235 yX3_enginesBefore) 105 (rfl) (rfl)
theorem lkL_255 : Cond.methodLink RL 255 yL_addMonk ∈ WALL := inT5 (w := Cond.methodLink RL 255 yL_addMonk) 109 (rfl) (rfl)
theorem lkL_95 : Cond.methodLink RL 95 yX10_addMonk ∈ WALL := inT5 (w := Cond.methodLink RL 95 yX10_addMonk) 112 (rfl) (rfl)
theorem lkX10_236 : Cond.methodLink RX10 236 yX3_faultOfMonk ∈ WALL := inT5 (w := Cond.methodLink RX10 236 yX3_faultOfMonk) 116 (rfl) (rfl)
theorem lkX10_239 : Cond.methodLink RX10 239 yX3_receiveMonk ∈ WALL := inT5 (w := Cond.methodLink RX10 239 yX3_receiveMonk) 120 (rfl) (rfl)
theorem lkL_259 : Cond.methodLink RL 259 yL_setAble ∈ WALL := inT5 (w := Cond.methodLink RL 259 yL_setAble) 124 (rfl) (rfl)
theorem lkL_99 : Cond.methodLink RL 99 yX10_setAble ∈ WALL := inT5 (w := Cond.methodLink RL 99 yX10_setAble) 127 (rfl) (rfl)
theorem lkX10_242 : Cond.methodLink RX10 242 yX3_faultOfAble ∈ WALL := inT5 (w := Cond.methodLink RX10 242 yX3_faultOfAble) 131 (rfl) (rfl)
theorem lkX10_245 : Cond.methodLink RX10 245 yX3_changeAble ∈ WALL := inT5 (w := Cond.methodLink RX10 245 yX3_changeAble) 135 (rfl) (rfl)
theorem lkL_271 : Cond.methodLink RL 271 yL_keeperOf ∈ WALL := inT5 (w := Cond.methodLink RL 271 yL_keeperOf) 139 (rfl) (rfl)
theorem lkL_103 : Cond.methodLink RL 103 yX10_keeperOf ∈ WALL := inT5 (w := Cond.methodLink RL 103 yX10_keeperOf) 142 (rfl) (rfl)
theorem lkL_274 : Cond.methodLink RL 274 yL_addRepair ∈ WALL := inT5 (w := Cond.methodLink RL 274 yL_addRepair) 146 (rfl) (rfl)
theorem lkL_106 : Cond.methodLink RL 106 yX10_addRepair ∈ WALL := inT5 (w := Cond.methodLink RL 106 yX10_addRepair) 149 (rfl) (rfl)
theorem lkX10_265 : Cond.methodLink RX10 265 yX3_faultOfRepair ∈ WALL := inT5 (w := Cond.methodLink RX10 265 yX3_faultOfRepair) 153 (rfl) (rfl)
theorem lkX10_272 : Cond.methodLink RX10 272 yX8_ask ∈ WALL := inT5 (w := Cond.methodLink RX10 272 yX8_ask) 157 (rfl) (rfl)
theorem lkL_277 : Cond.methodLink RL 277 yL_removeRepair ∈ WALL := inT5 (w := Cond.methodLink RL 277 yL_removeRepair) 161 (rfl) (rfl)
theorem lkL_109 : Cond.methodLink RL 109 yX10_removeRepair ∈ WALL := inT5 (w := Cond.methodLink RL 109 yX10_removeRepair) 164 (rfl) (rfl)
theorem lkX10_280 : Cond.methodLink RX10 280 yX8_withdraw ∈ WALL := inT5 (w := Cond.methodLink RX10 280 yX8_withdraw) 168 (rfl) (rfl)
theorem lkL_292 : Cond.methodLink RL 292 yL_repair ∈ WALL := inT5 (w := Cond.methodLink RL 292 yL_repair) 172 (rfl) (rfl)
theorem lkL_112 : Cond.methodLink RL 112 yX10_repair ∈ WALL := inT5 (w := Cond.methodLink RL 112 yX10_repair) 175 (rfl) (rfl)
theorem lkX10_290 : Cond.methodLink RX10 290 yX3_faultOfRepairing ∈ WALL := inT5 (w := Cond.methodLink RX10 290 yX3_faultOfRepairing) 179 (rfl) (rfl)
theorem lkX10_293 : Cond.methodLink RX10 293 yX3_doFirstRepair ∈ WALL := inT5 (w := Cond.methodLink RX10 293 yX3_doFirstRepair) 183 (rfl) (rfl)
theorem lkX3_205 : Cond.methodLink RX3 205 yX8_firstOfBest ∈ WALL := inT5 (w := Cond.methodLink RX3 205 yX8_firstOfBest) 187 (rfl) (rfl)
theorem lkX8_31 : Cond.methodLink RX8 31 yX8_isBefore ∈ WALL := inT5 (w := Cond.methodLink RX8 31 yX8_isBefore) 191 (rfl) (rfl)
theorem lkX3_213 : Cond.methodLink RX3 213 yX8_penanceOfAnHour ∈ WALL := inT5 (w := Cond.methodLink RX3 213 yX8_penanceOfAnHour) 192 (rfl) (rfl)
theorem lkX3_176 : Cond.methodLink RX3 176 yX3_passHours ∈ WALL := inT5 (w := Cond.methodLink RX3 176 yX3_passHours) 196 (rfl) (rfl)
theorem lkX3_151 : Cond.methodLink RX3 151 yX3_runEngine ∈ WALL := inT5 (w := Cond.methodLink RX3 151 yX3_runEngine) 200 (rfl) (rfl)
theorem lkX3_216 : Cond.methodLink RX3 216 yX1_renew ∈ WALL := inT5 (w := Cond.methodLink RX3 216 yX1_renew) 201 (rfl) (rfl)
theorem lkX3_219 : Cond.methodLink RX3 219 yX8_withdraw ∈ WALL := inT5 (w := Cond.methodLink RX3 219 yX8_withdraw) 205 (rfl) (rfl)
theorem lkL_299 : Cond.methodLink RL 299 yL_pass ∈ WALL := inT5 (w := Cond.methodLink RL 299 yL_pass) 206 (rfl) (rfl)
theorem lkL_115 : Cond.methodLink RL 115 yX10_pass ∈ WALL := inT5 (w := Cond.methodLink RL 115 yX10_pass) 209 (rfl) (rfl)
theorem lkX10_299 : Cond.methodLink RX10 299 yX3_faultOfHours ∈ WALL := inT5 (w := Cond.methodLink RX10 299 yX3_faultOfHours) 213 (rfl) (rfl)
theorem lkX10_302 : Cond.methodLink RX10 302 yX3_passHours ∈ WALL := inT5 (w := Cond.methodLink RX10 302 yX3_passHours) 217 (rfl) (rfl)
theorem lkL_306 : Cond.methodLink RL 306 yL_knocksIn ∈ WALL := inT5 (w := Cond.methodLink RL 306 yL_knocksIn) 218 (rfl) (rfl)
theorem lkL_118 : Cond.methodLink RL 118 yX10_knocksIn ∈ WALL := inT5 (w := Cond.methodLink RL 118 yX10_knocksIn) 221 (rfl) (rfl)
theorem lkX10_312 : Cond.methodLink RX10 312 yX4_placeFrom ∈ WALL := inT5 (w := Cond.methodLink RX10 312 yX4_placeFrom) 225 (rfl) (rfl)
theorem lkL_309 : Cond.methodLink RL 309 yL_hourOfKnocks ∈ WALL := inT5 (w := Cond.methodLink RL 309 yL_hourOfKnocks) 229 (rfl) (rfl)
theorem lkL_121 : Cond.methodLink RL 121 yX10_hourOfKnocks ∈ WALL := inT5 (w := Cond.methodLink RL 121 yX10_hourOfKnocks) 232 (rfl) (rfl)
theorem lkL_312 : Cond.methodLink RL 312 yL_append ∈ WALL := inT5 (w := Cond.methodLink RL 312 yL_append) 236 (rfl) (rfl)
theorem lkL_124 : Cond.methodLink RL 124 yX10_append ∈ WALL := inT5 (w := Cond.methodLink RL 124 yX10_append) 239 (rfl) (rfl)
theorem lkX10_326 : Cond.methodLink RX10 326 yX0_hasRoom ∈ WALL := inT6 (w := Cond.methodLink RX10 326 yX0_hasRoom) 3 (rfl) (rfl)
theorem lkX10_333 : Cond.methodLink RX10 333 yX0_add ∈ WALL := inT6 (w := Cond.methodLink RX10 333 yX0_add) 7 (rfl) (rfl)
theorem lkL_316 : Cond.methodLink RL 316 yL_execute ∈ WALL := inT6 (w := Cond.methodLink RL 316 yL_execute) 11 (rfl) (rfl)
theorem lkL_128 : Cond.methodLink RL 128 yX10_execute ∈ WALL := inT6 (w := Cond.methodLink RL 128 yX10_execute) 14 (rfl) (rfl)
theorem lkX10_337 : Cond.methodLink RX10 337 yX0_read ∈ WALL := inT6 (w := Cond.methodLink RX10 337 yX0_read) 18 (rfl) (rfl)
theorem lkX0_26 : Cond.methodLink RX0 26 yX0_readCommand ∈ WALL := inT6 (w := Cond.methodLink RX0 26 yX0_readCommand) 22 (rfl) (rfl)
theorem lkX0_36 : Cond.methodLink RX0 36 yX0_formOf ∈ WALL := inT6 (w := Cond.methodLink RX0 36 yX0_formOf) 26 (rfl) (rfl)
theorem lkX0_40 : Cond.methodLink RX0 40 yX0_fits ∈ WALL := inT6 (w := Cond.methodLink RX0 40 yX0_fits) 41 (rfl) (rfl)
theorem lkX0_49 : Cond.methodLink RX0 49 yJ0_length_8abf5 ∈ WALL := inT6 (w := Cond.methodLink RX0 49 yJ0_length_8abf5) 45 (rfl) (rfl)
theorem lkJ0_335 : Cond.methodLink RJ0 335 yJ0_coder_7d493 ∈ WALL := inT6 (w := Cond.methodLink RJ0 335 yJ0_coder_7d493) 49 (rfl) (rfl)
theorem lkJ0_38 : Cond.fieldLink RJ0 38 "java/lang/String" "COMPACT_STRINGS" "Z" ∈ WALL := inT6 (w := Cond.fieldLink RJ0 38 "java/lang/String" "COMPACT_STRINGS" "Z") 53 (rfl) (rfl)
theorem lkX0_54 : Cond.methodLink RX0 54 yJ0_charAt_5068e ∈ WALL := inT6 (w := Cond.methodLink RX0 54 yJ0_charAt_5068e) 55 (rfl) (rfl)
theorem lkJ0_492 : Cond.methodLink RJ0 492 yJ0_isLatin1_aae02 ∈ WALL := inT6 (w := Cond.methodLink RJ0 492 yJ0_isLatin1_aae02) 59 (rfl) (rfl)
theorem lkJ0_495 : Cond.methodLink RJ0 495 yJ1_charAt_3b067 ∈ WALL := inT6 (w := Cond.methodLink RJ0 495 yJ1_charAt_3b067) 63 (rfl) (rfl)
theorem lkJ1_9 : Cond.methodLink RJ1 9 yJ0_checkIndex_df160 ∈ WALL := inT6 (w := Cond.methodLink RJ1 9 yJ0_checkIndex_df160) 66 (rfl) (rfl)
theorem lkJ0_1053 : Cond.fieldLink RJ0 1053 "jdk/internal/util/Preconditions" "SIOOBE_FORMATTER" "Ljava/util/function/BiFunction;" ∈ WALL := inT6 (w := Cond.fieldLink RJ0 1053 "jdk/internal/util/Preconditions" "SIOOBE_FORMATTER" "Ljava/util/function/BiFunction;") 69 (rfl) (rfl)
theorem lkJ0_1059 : Cond.methodLink RJ0 1059 yJ3_checkIndex_8e157 ∈ WALL := inT6 (w := Cond.methodLink RJ0 1059 yJ3_checkIndex_8e157) 71 (rfl) (rfl)
theorem lkJ0_498 : Cond.methodLink RJ0 498 yJ2_charAt_3b067 ∈ WALL := inT6 (w := Cond.methodLink RJ0 498 yJ2_charAt_3b067) 74 (rfl) (rfl)
theorem lkX0_58 : Cond.methodLink RX0 58 yX0_isDigit ∈ WALL := inT6 (w := Cond.methodLink RX0 58 yX0_isDigit) 93 (rfl) (rfl)
theorem lkX0_62 : Cond.methodLink RX0 62 yX0_readNumber ∈ WALL := inT6 (w := Cond.methodLink RX0 62 yX0_readNumber) 98 (rfl) (rfl)
theorem lkX0_44 : Cond.methodLink RX0 44 yJ9_max_7cf53 ∈ WALL := inT6 (w := Cond.methodLink RX0 44 yJ9_max_7cf53) 102 (rfl) (rfl)
theorem lkX10_340 : Cond.methodLink RX10 340 yX0_empty ∈ WALL := inT6 (w := Cond.methodLink RX10 340 yX0_empty) 103 (rfl) (rfl)
theorem lkX10_349 : Cond.methodLink RX10 349 yX3_faultOf ∈ WALL := inT6 (w := Cond.methodLink RX10 349 yX3_faultOf) 107 (rfl) (rfl)
theorem lkX3_94 : Cond.methodLink RX3 94 yX0_numberOf ∈ WALL := inT6 (w := Cond.methodLink RX3 94 yX0_numberOf) 111 (rfl) (rfl)
theorem lkX3_103 : Cond.methodLink RX3 103 yX3_faultOfEngine ∈ WALL := inT6 (w := Cond.methodLink RX3 103 yX3_faultOfEngine) 115 (rfl) (rfl)
theorem lkX3_107 : Cond.methodLink RX3 107 yX3_faultOfExchange ∈ WALL := inT6 (w := Cond.methodLink RX3 107 yX3_faultOfExchange) 116 (rfl) (rfl)
theorem lkX3_111 : Cond.methodLink RX3 111 yX3_faultOfRate ∈ WALL := inT6 (w := Cond.methodLink RX3 111 yX3_faultOfRate) 117 (rfl) (rfl)
theorem lkX3_114 : Cond.methodLink RX3 114 yX3_faultOfRun ∈ WALL := inT6 (w := Cond.methodLink RX3 114 yX3_faultOfRun) 118 (rfl) (rfl)
theorem lkX3_117 : Cond.methodLink RX3 117 yX3_faultOfOil ∈ WALL := inT6 (w := Cond.methodLink RX3 117 yX3_faultOfOil) 119 (rfl) (rfl)
theorem lkX3_120 : Cond.methodLink RX3 120 yX3_faultOfFill ∈ WALL := inT6 (w := Cond.methodLink RX3 120 yX3_faultOfFill) 120 (rfl) (rfl)
theorem lkX3_123 : Cond.methodLink RX3 123 yX3_faultOfPurchase ∈ WALL := inT6 (w := Cond.methodLink RX3 123 yX3_faultOfPurchase) 121 (rfl) (rfl)
theorem lkX3_126 : Cond.methodLink RX3 126 yX3_faultOfMonk ∈ WALL := inT6 (w := Cond.methodLink RX3 126 yX3_faultOfMonk) 122 (rfl) (rfl)
theorem lkX3_130 : Cond.methodLink RX3 130 yX3_faultOfAble ∈ WALL := inT6 (w := Cond.methodLink RX3 130 yX3_faultOfAble) 123 (rfl) (rfl)
theorem lkX3_133 : Cond.methodLink RX3 133 yX3_faultOfRepair ∈ WALL := inT6 (w := Cond.methodLink RX3 133 yX3_faultOfRepair) 124 (rfl) (rfl)
theorem lkX3_136 : Cond.methodLink RX3 136 yX3_faultOfRepairing ∈ WALL := inT6 (w := Cond.methodLink RX3 136 yX3_faultOfRepairing) 125 (rfl) (rfl)
theorem lkX3_139 : Cond.methodLink RX3 139 yX3_faultOfHours ∈ WALL := inT6 (w := Cond.methodLink RX3 139 yX3_faultOfHours) 126 (rfl) (rfl)
theorem lkX10_356 : Cond.methodLink RX10 356 yX3_carryOut ∈ WALL := inT6 (w := Cond.methodLink RX10 356 yX3_carryOut) 127 (rfl) (rfl)
theorem lkX3_142 : Cond.methodLink RX3 142 yX3_buildEngine ∈ WALL := inT6 (w := Cond.methodLink RX3 142 yX3_buildEngine) 131 (rfl) (rfl)
theorem lkX3_145 : Cond.methodLink RX3 145 yX1_swapPlaces ∈ WALL := inT6 (w := Cond.methodLink RX3 145 yX1_swapPlaces) 132 (rfl) (rfl)
theorem lkX3_148 : Cond.methodLink RX3 148 yX1_changeRate ∈ WALL := inT6 (w := Cond.methodLink RX3 148 yX1_changeRate) 133 (rfl) (rfl)
theorem lkX3_154 : Cond.methodLink RX3 154 yX3_giveOil ∈ WALL := inT6 (w := Cond.methodLink RX3 154 yX3_giveOil) 134 (rfl) (rfl)
theorem lkX3_157 : Cond.methodLink RX3 157 yX3_fillFromStore ∈ WALL := inT6 (w := Cond.methodLink RX3 157 yX3_fillFromStore) 135 (rfl) (rfl)
theorem lkX3_160 : Cond.methodLink RX3 160 yX3_buyUnits ∈ WALL := inT6 (w := Cond.methodLink RX3 160 yX3_buyUnits) 136 (rfl) (rfl)
theorem lkX3_163 : Cond.methodLink RX3 163 yX3_receiveMonk ∈ WALL := inT6 (w := Cond.methodLink RX3 163 yX3_receiveMonk) 137 (rfl) (rfl)
theorem lkX3_166 : Cond.methodLink RX3 166 yX3_changeAble ∈ WALL := inT6 (w := Cond.methodLink RX3 166 yX3_changeAble) 138 (rfl) (rfl)
theorem lkX3_170 : Cond.methodLink RX3 170 yX8_ask ∈ WALL := inT6 (w := Cond.methodLink RX3 170 yX8_ask) 139 (rfl) (rfl)
theorem lkX3_173 : Cond.methodLink RX3 173 yX3_doFirstRepair ∈ WALL := inT6 (w := Cond.methodLink RX3 173 yX3_doFirstRepair) 140 (rfl) (rfl)
theorem lkL_319 : Cond.methodLink RL 319 yL_errorPosition ∈ WALL := inT6 (w := Cond.methodLink RL 319 yL_errorPosition) 141 (rfl) (rfl)
theorem lkL_131 : Cond.methodLink RL 131 yX10_errorPosition ∈ WALL := inT6 (w := Cond.methodLink RL 131 yX10_errorPosition) 144 (rfl) (rfl)
theorem lkL_322 : Cond.methodLink RL 322 yL_failedCommand ∈ WALL := inT6 (w := Cond.methodLink RL 322 yL_failedCommand) 148 (rfl) (rfl)
theorem lkL_134 : Cond.methodLink RL 134 yX10_failedCommand ∈ WALL := inT6 (w := Cond.methodLink RL 134 yX10_failedCommand) 151 (rfl) (rfl)
theorem lkL_325 : Cond.methodLink RL 325 yL_describeEngine ∈ WALL := inT6 (w := Cond.methodLink RL 325 yL_describeEngine) 155 (rfl) (rfl)
theorem lkL_137 : Cond.methodLink RL 137 yX10_describeEngine ∈ WALL := inT6 (w := Cond.methodLink RL 137 yX10_describeEngine) 158 (rfl) (rfl)
theorem lkX10_368 : Cond.methodLink RX10 368 yX10_writePlace ∈ WALL := inT6 (w := Cond.methodLink RX10 368 yX10_writePlace) 162 (rfl) (rfl)
theorem lkL_332 : Cond.methodLink RL 332 yL_lineAt ∈ WALL := inT6 (w := Cond.methodLink RL 332 yL_lineAt) 166 (rfl) (rfl)
theorem lkL_140 : Cond.methodLink RL 140 yX10_lineAt ∈ WALL := inT6 (w := Cond.methodLink RL 140 yX10_lineAt) 169 (rfl) (rfl)
theorem lkL_335 : Cond.methodLink RL 335 yL_meanOil ∈ WALL := inT6 (w := Cond.methodLink RL 335 yL_meanOil) 173 (rfl) (rfl)
theorem lkL_148 : Cond.classLink RL 148 "java/lang/ArithmeticException" ∈ WALL := inT6 (w := Cond.classLink RL 148 "java/lang/ArithmeticException") 176 (rfl) (rfl)
theorem lkL_144 : Cond.methodLink RL 144 yX10_meanOil ∈ WALL := inT6 (w := Cond.methodLink RL 144 yX10_meanOil) 190 (rfl) (rfl)
theorem lkX10_379 : Cond.methodLink RX10 379 yX3_allCylinders ∈ WALL := inT6 (w := Cond.methodLink RX10 379 yX3_allCylinders) 194 (rfl) (rfl)
theorem lkX10_382 : Cond.classLink RX10 382 "java/lang/ArithmeticException" ∈ WALL := inT6 (w := Cond.classLink RX10 382 "java/lang/ArithmeticException") 198 (rfl) (rfl)
theorem lkL_349 : Cond.methodLink RL 349 yL_undo ∈ WALL := inT6 (w := Cond.methodLink RL 349 yL_undo) 203 (rfl) (rfl)
theorem lkL_150 : Cond.methodLink RL 150 yX10_undo ∈ WALL := inT6 (w := Cond.methodLink RL 150 yX10_undo) 206 (rfl) (rfl)
theorem lkX10_411 : Cond.methodLink RX10 411 yX6_takeBack ∈ WALL := inT6 (w := Cond.methodLink RX10 411 yX6_takeBack) 210 (rfl) (rfl)
theorem lkL_356 : Cond.methodLink RL 356 yL_restore ∈ WALL := inT6 (w := Cond.methodLink RL 356 yL_restore) 214 (rfl) (rfl)
theorem lkL_153 : Cond.methodLink RL 153 yX10_restore ∈ WALL := inT6 (w := Cond.methodLink RL 153 yX10_restore) 217 (rfl) (rfl)
theorem lkX10_419 : Cond.methodLink RX10 419 yX6_forget ∈ WALL := inT6 (w := Cond.methodLink RX10 419 yX6_forget) 221 (rfl) (rfl)
theorem lkL_157 : Cond.classLink RL 157 "EngineMonasteryModel" ∈ WALL := inT6 (w := Cond.classLink RL 157 "EngineMonasteryModel") 225 (rfl) (rfl)
theorem lkL_159 : Cond.methodLink RL 159 yX11_init ∈ WALL := inT6 (w := Cond.methodLink RL 159 yX11_init) 227 (rfl) (rfl)
theorem lkX11_1 : Cond.methodLink RX11 1 Lib.objectInit ∈ WALL := inT6 (w := Cond.methodLink RX11 1 Lib.objectInit) 230 (rfl) (rfl)
theorem lkX11_9 : Cond.fieldLink RX11 9 "EngineMonasteryModel" "m" "[I" ∈ WALL := inT6 (w := Cond.fieldLink RX11 9 "EngineMonasteryModel" "m" "[I") 231 (rfl) (rfl)
theorem lkX11_13 : Cond.fieldLink RX11 13 "EngineMonasteryModel" "aside" "[I" ∈ WALL := inT6 (w := Cond.fieldLink RX11 13 "EngineMonasteryModel" "aside" "[I") 232 (rfl) (rfl)
theorem lkX11_16 : Cond.fieldLink RX11 16 "EngineMonasteryModel" "saved" "[I" ∈ WALL := inT6 (w := Cond.fieldLink RX11 16 "EngineMonasteryModel" "saved" "[I") 233 (rfl) (rfl)
theorem lkX11_311 : Cond.fieldLink RX11 311 "EngineMonasteryModel" "isSaved" "Z" ∈ WALL := inT6 (w := Cond.fieldLink RX11 311 "EngineMonasteryModel" "isSaved" "Z") 234 (rfl) (rfl)
theorem lkX11_19 : Cond.fieldLink RX11 19 "EngineMonasteryModel" "past" "[I" ∈ WALL := inT6 (w := Cond.fieldLink RX11 19 "EngineMonasteryModel" "past" "[I") 235 (rfl) (rfl)
theorem lkX11_60 : Cond.fieldLink RX11 60 "EngineMonasteryModel" "changes" "I" ∈ WALL := inT6 (w := Cond.fieldLink RX11 60 "EngineMonasteryModel" "changes" "I") 236 (rfl) (rfl)
theorem lkX11_22 : Cond.fieldLink RX11 22 "EngineMonasteryModel" "errorAt" "I" ∈ WALL := inT6 (w := Cond.fieldLink RX11 22 "EngineMonasteryModel" "errorAt" "I") 237 (rfl) (rfl)
theorem lkX11_26 : Cond.fieldLink RX11 26 "EngineMonasteryModel" "failed" "I" ∈ WALL := inT6 (w := Cond.fieldLink RX11 26 "EngineMonasteryModel" "failed" "I") 238 (rfl) (rfl)
theorem lkX11_57 : Cond.fieldLink RX11 57 "EngineMonasteryModel" "thrown" "I" ∈ WALL := inT6 (w := Cond.fieldLink RX11 57 "EngineMonasteryModel" "thrown" "I") 239 (rfl) (rfl)
theorem lkX11_29 : Cond.fieldLink RX11 29 "EngineMonasteryModel" "input" "[I" ∈ WALL := inT7 (w := Cond.fieldLink RX11 29 "EngineMonasteryModel" "input" "[I") 0 (rfl) (rfl)
theorem lkX11_256 : Cond.fieldLink RX11 256 "EngineMonasteryModel" "inputMany" "I" ∈ WALL := inT7 (w := Cond.fieldLink RX11 256 "EngineMonasteryModel" "inputMany" "I") 1 (rfl) (rfl)
theorem lkX11_32 : Cond.fieldLink RX11 32 "EngineMonasteryModel" "oils" "[I" ∈ WALL := inT7 (w := Cond.fieldLink RX11 32 "EngineMonasteryModel" "oils" "[I") 2 (rfl) (rfl)
theorem lkX11_92 : Cond.fieldLink RX11 92 "EngineMonasteryModel" "oilMany" "I" ∈ WALL := inT7 (w := Cond.fieldLink RX11 92 "EngineMonasteryModel" "oilMany" "I") 3 (rfl) (rfl)
theorem lkX11_35 : Cond.fieldLink RX11 35 "EngineMonasteryModel" "mosts" "[I" ∈ WALL := inT7 (w := Cond.fieldLink RX11 35 "EngineMonasteryModel" "mosts" "[I") 4 (rfl) (rfl)
theorem lkX11_38 : Cond.fieldLink RX11 38 "EngineMonasteryModel" "keepers" "[I" ∈ WALL := inT7 (w := Cond.fieldLink RX11 38 "EngineMonasteryModel" "keepers" "[I") 5 (rfl) (rfl)
theorem lkX11_41 : Cond.fieldLink RX11 41 "EngineMonasteryModel" "orders" "[I" ∈ WALL := inT7 (w := Cond.fieldLink RX11 41 "EngineMonasteryModel" "orders" "[I") 6 (rfl) (rfl)
theorem lkX11_44 : Cond.fieldLink RX11 44 "EngineMonasteryModel" "letters" "[C" ∈ WALL := inT7 (w := Cond.fieldLink RX11 44 "EngineMonasteryModel" "letters" "[C") 7 (rfl) (rfl)
theorem lkX11_48 : Cond.fieldLink RX11 48 "EngineMonasteryModel" "begins0" "[I" ∈ WALL := inT7 (w := Cond.fieldLink RX11 48 "EngineMonasteryModel" "begins0" "[I") 8 (rfl) (rfl)
theorem lkX11_51 : Cond.fieldLink RX11 51 "EngineMonasteryModel" "commands" "[I" ∈ WALL := inT7 (w := Cond.fieldLink RX11 51 "EngineMonasteryModel" "commands" "[I") 9 (rfl) (rfl)
theorem lkX11_289 : Cond.fieldLink RX11 289 "EngineMonasteryModel" "commandMany" "I" ∈ WALL := inT7 (w := Cond.fieldLink RX11 289 "EngineMonasteryModel" "commandMany" "I") 10 (rfl) (rfl)
theorem lkX11_259 : Cond.fieldLink RX11 259 "EngineMonasteryModel" "place0" "I" ∈ WALL := inT7 (w := Cond.fieldLink RX11 259 "EngineMonasteryModel" "place0" "I") 11 (rfl) (rfl)
theorem lkX11_262 : Cond.fieldLink RX11 262 "EngineMonasteryModel" "size0" "I" ∈ WALL := inT7 (w := Cond.fieldLink RX11 262 "EngineMonasteryModel" "size0" "I") 12 (rfl) (rfl)
theorem lkX11_265 : Cond.fieldLink RX11 265 "EngineMonasteryModel" "isWrong" "Z" ∈ WALL := inT7 (w := Cond.fieldLink RX11 265 "EngineMonasteryModel" "isWrong" "Z") 13 (rfl) (rfl)
theorem lkX11_54 : Cond.fieldLink RX11 54 "EngineMonasteryModel" "line" "[I" ∈ WALL := inT7 (w := Cond.fieldLink RX11 54 "EngineMonasteryModel" "line" "[I") 14 (rfl) (rfl)
theorem lkX11_304 : Cond.fieldLink RX11 304 "EngineMonasteryModel" "lineMany" "I" ∈ WALL := inT7 (w := Cond.fieldLink RX11 304 "EngineMonasteryModel" "lineMany" "I") 15 (rfl) (rfl)
theorem lkL_166 : Cond.methodLink RL 166 yX11_thrown ∈ WALL := inT7 (w := Cond.methodLink RL 166 yX11_thrown) 67 (rfl) (rfl)
theorem lkL_165 : Cond.methodLink RL 165 yX11_addEngine ∈ WALL := inT7 (w := Cond.methodLink RL 165 yX11_addEngine) 71 (rfl) (rfl)
theorem lkX11_128 : Cond.methodLink RX11 128 yX11_starts ∈ WALL := inT7 (w := Cond.methodLink RX11 128 yX11_starts) 75 (rfl) (rfl)
theorem lkX11_131 : Cond.methodLink RX11 131 yX11_engineIt ∈ WALL := inT7 (w := Cond.methodLink RX11 131 yX11_engineIt) 79 (rfl) (rfl)
theorem lkX11_121 : Cond.constantLong RX11 121 (3) ∈ WALL := inT7 (w := Cond.constantLong RX11 121 (3)) 83 (rfl) (rfl)
theorem lkX11_123 : Cond.constantLong RX11 123 (8) ∈ WALL := inT7 (w := Cond.constantLong RX11 123 (8)) 84 (rfl) (rfl)
theorem lkX11_63 : Cond.methodLink RX11 63 yX11_in ∈ WALL := inT7 (w := Cond.methodLink RX11 63 yX11_in) 85 (rfl) (rfl)
theorem lkX11_125 : Cond.methodLink RX11 125 yX11_throwing ∈ WALL := inT7 (w := Cond.methodLink RX11 125 yX11_throwing) 88 (rfl) (rfl)
theorem lkX11_67 : Cond.methodLink RX11 67 yX11_engineAt ∈ WALL := inT7 (w := Cond.methodLink RX11 67 yX11_engineAt) 92 (rfl) (rfl)
theorem lkX11_134 : Cond.methodLink RX11 134 yX11_changed ∈ WALL := inT7 (w := Cond.methodLink RX11 134 yX11_changed) 95 (rfl) (rfl)
theorem lkL_172 : Cond.methodLink RL 172 yX11_exchange ∈ WALL := inT7 (w := Cond.methodLink RL 172 yX11_exchange) 99 (rfl) (rfl)
theorem lkX11_140 : Cond.methodLink RX11 140 yX11_swapIt ∈ WALL := inT7 (w := Cond.methodLink RX11 140 yX11_swapIt) 103 (rfl) (rfl)
theorem lkX11_137 : Cond.methodLink RX11 137 yX11_isPart ∈ WALL := inT7 (w := Cond.methodLink RX11 137 yX11_isPart) 107 (rfl) (rfl)
theorem lkX11_71 : Cond.methodLink RX11 71 yX11_isEngine ∈ WALL := inT7 (w := Cond.methodLink RX11 71 yX11_isEngine) 111 (rfl) (rfl)
theorem lkX11_75 : Cond.methodLink RX11 75 yX11_many ∈ WALL := inT7 (w := Cond.methodLink RX11 75 yX11_many) 115 (rfl) (rfl)
theorem lkL_176 : Cond.methodLink RL 176 yX11_setRate ∈ WALL := inT7 (w := Cond.methodLink RL 176 yX11_setRate) 119 (rfl) (rfl)
theorem lkX11_145 : Cond.methodLink RX11 145 yX11_rateIt ∈ WALL := inT7 (w := Cond.methodLink RX11 145 yX11_rateIt) 123 (rfl) (rfl)
theorem lkX11_143 : Cond.constantLong RX11 143 (9) ∈ WALL := inT7 (w := Cond.constantLong RX11 143 (9)) 127 (rfl) (rfl)
theorem lkL_210 : Cond.methodLink RL 210 yX11_run ∈ WALL := inT7 (w := Cond.methodLink RL 210 yX11_run) 128 (rfl) (rfl)
theorem lkX11_150 : Cond.methodLink RX11 150 yX11_runIt ∈ WALL := inT7 (w := Cond.methodLink RX11 150 yX11_runIt) 132 (rfl) (rfl)
theorem lkX11_148 : Cond.constantLong RX11 148 (99) ∈ WALL := inT7 (w := Cond.constantLong RX11 148 (99)) 136 (rfl) (rfl)
theorem lkX11_89 : Cond.methodLink RX11 89 yX11_strokes ∈ WALL := inT7 (w := Cond.methodLink RX11 89 yX11_strokes) 137 (rfl) (rfl)
theorem lkX11_81 : Cond.methodLink RX11 81 yX11_order ∈ WALL := inT7 (w := Cond.methodLink RX11 81 yX11_order) 141 (rfl) (rfl)
theorem lkX11_85 : Cond.methodLink RX11 85 yX11_keepsKnock ∈ WALL := inT7 (w := Cond.methodLink RX11 85 yX11_keepsKnock) 145 (rfl) (rfl)
theorem lkX11_78 : Cond.methodLink RX11 78 yX11_keepsHour ∈ WALL := inT7 (w := Cond.methodLink RX11 78 yX11_keepsHour) 149 (rfl) (rfl)
theorem lkL_213 : Cond.methodLink RL 213 yX11_oil ∈ WALL := inT7 (w := Cond.methodLink RL 213 yX11_oil) 153 (rfl) (rfl)
theorem lkX11_153 : Cond.methodLink RX11 153 yX11_oilIt ∈ WALL := inT7 (w := Cond.methodLink RX11 153 yX11_oilIt) 157 (rfl) (rfl)
theorem lkL_216 : Cond.methodLink RL 216 yX11_oilDriest ∈ WALL := inT7 (w := Cond.methodLink RL 216 yX11_oilDriest) 161 (rfl) (rfl)
theorem lkX11_162 : Cond.methodLink RX11 162 yX11_fillIt ∈ WALL := inT7 (w := Cond.methodLink RX11 162 yX11_fillIt) 165 (rfl) (rfl)
theorem lkX11_156 : Cond.methodLink RX11 156 yX11_least ∈ WALL := inT7 (w := Cond.methodLink RX11 156 yX11_least) 169 (rfl) (rfl)
theorem lkX11_95 : Cond.methodLink RX11 95 yX11_takesOils ∈ WALL := inT7 (w := Cond.methodLink RX11 95 yX11_takesOils) 173 (rfl) (rfl)
theorem lkX11_98 : Cond.methodLink RX11 98 yX11_driest ∈ WALL := inT7 (w := Cond.methodLink RX11 98 yX11_driest) 177 (rfl) (rfl)
theorem lkX11_159 : Cond.methodLink RX11 159 yX11_bringsOils ∈ WALL := inT7 (w := Cond.methodLink RX11 159 yX11_bringsOils) 181 (rfl) (rfl)
theorem lkL_225 : Cond.methodLink RL 225 yX11_buyOil ∈ WALL := inT7 (w := Cond.methodLink RL 225 yX11_buyOil) 185 (rfl) (rfl)
theorem lkX11_165 : Cond.methodLink RX11 165 yX11_buyIt ∈ WALL := inT7 (w := Cond.methodLink RX11 165 yX11_buyIt) 189 (rfl) (rfl)
theorem lkL_258 : Cond.methodLink RL 258 yX11_addMonk ∈ WALL := inT7 (w := Cond.methodLink RL 258 yX11_addMonk) 193 (rfl) (rfl)
theorem lkX11_168 : Cond.methodLink RX11 168 yX11_monkIt ∈ WALL := inT7 (w := Cond.methodLink RX11 168 yX11_monkIt) 197 (rfl) (rfl)
theorem lkL_262 : Cond.methodLink RL 262 yX11_setAble ∈ WALL := inT7 (w := Cond.methodLink RL 262 yX11_setAble) 201 (rfl) (rfl)
theorem lkX11_173 : Cond.methodLink RX11 173 yX11_ableIt ∈ WALL := inT7 (w := Cond.methodLink RX11 173 yX11_ableIt) 205 (rfl) (rfl)
theorem lkX11_171 : Cond.constantLong RX11 171 (7) ∈ WALL := inT7 (w := Cond.constantLong RX11 171 (7)) 209 (rfl) (rfl)
theorem lkL_276 : Cond.methodLink RL 276 yX11_addRepair ∈ WALL := inT7 (w := Cond.methodLink RL 276 yX11_addRepair) 210 (rfl) (rfl)
theorem lkX11_177 : Cond.methodLink RX11 177 yX11_mendIt ∈ WALL := inT7 (w := Cond.methodLink RX11 177 yX11_mendIt) 214 (rfl) (rfl)
theorem lkL_279 : Cond.methodLink RL 279 yX11_removeRepair ∈ WALL := inT7 (w := Cond.methodLink RL 279 yX11_removeRepair) 218 (rfl) (rfl)
theorem lkX11_180 : Cond.methodLink RX11 180 yX11_dropsRepair ∈ WALL := inT7 (w := Cond.methodLink RX11 180 yX11_dropsRepair) 222 (rfl) (rfl)
theorem lkL_294 : Cond.methodLink RL 294 yX11_repair ∈ WALL := inT7 (w := Cond.methodLink RL 294 yX11_repair) 226 (rfl) (rfl)
theorem lkX11_187 : Cond.methodLink RX11 187 yX11_repairIt ∈ WALL := inT7 (w := Cond.methodLink RX11 187 yX11_repairIt) 230 (rfl) (rfl)
theorem lkX11_118 : Cond.methodLink RX11 118 yX11_isSooner ∈ WALL := inT7 (w := Cond.methodLink RX11 118 yX11_isSooner) 234 (rfl) (rfl)
theorem lkX11_115 : Cond.methodLink RX11 115 yX11_repairAt ∈ WALL := inT7 (w := Cond.methodLink RX11 115 yX11_repairAt) 238 (rfl) (rfl)
theorem lkX11_184 : Cond.methodLink RX11 184 yX11_passesHours ∈ WALL := inT8 (w := Cond.methodLink RX11 184 yX11_passesHours) 2 (rfl) (rfl)
theorem lkL_301 : Cond.methodLink RL 301 yX11_pass ∈ WALL := inT8 (w := Cond.methodLink RL 301 yX11_pass) 6 (rfl) (rfl)
theorem lkX11_192 : Cond.methodLink RX11 192 yX11_passIt ∈ WALL := inT8 (w := Cond.methodLink RX11 192 yX11_passIt) 10 (rfl) (rfl)
theorem lkX11_190 : Cond.constantLong RX11 190 (48) ∈ WALL := inT8 (w := Cond.constantLong RX11 190 (48)) 14 (rfl) (rfl)
theorem lkL_180 : Cond.methodLink RL 180 yX11_engineCount ∈ WALL := inT8 (w := Cond.methodLink RL 180 yX11_engineCount) 15 (rfl) (rfl)
theorem lkL_183 : Cond.methodLink RL 183 yX11_cylinderCount ∈ WALL := inT8 (w := Cond.methodLink RL 183 yX11_cylinderCount) 19 (rfl) (rfl)
theorem lkL_186 : Cond.methodLink RL 186 yX11_orderAt ∈ WALL := inT8 (w := Cond.methodLink RL 186 yX11_orderAt) 23 (rfl) (rfl)
theorem lkL_189 : Cond.methodLink RL 189 yX11_dueAfter ∈ WALL := inT8 (w := Cond.methodLink RL 189 yX11_dueAfter) 27 (rfl) (rfl)
theorem lkX11_195 : Cond.constantLong RX11 195 (9999) ∈ WALL := inT8 (w := Cond.constantLong RX11 195 (9999)) 31 (rfl) (rfl)
theorem lkL_192 : Cond.methodLink RL 192 yX11_dueAfterByStrokes ∈ WALL := inT8 (w := Cond.methodLink RL 192 yX11_dueAfterByStrokes) 32 (rfl) (rfl)
theorem lkX11_197 : Cond.methodLink RX11 197 yX11_dueAfter ∈ WALL := inT8 (w := Cond.methodLink RX11 197 yX11_dueAfter) 36 (rfl) (rfl)
theorem lkL_195 : Cond.methodLink RL 195 yX11_turnOf ∈ WALL := inT8 (w := Cond.methodLink RL 195 yX11_turnOf) 37 (rfl) (rfl)
theorem lkX11_200 : Cond.methodLink RX11 200 yX11_cycle ∈ WALL := inT8 (w := Cond.methodLink RX11 200 yX11_cycle) 41 (rfl) (rfl)
theorem lkL_198 : Cond.methodLink RL 198 yX11_turnByRepeating ∈ WALL := inT8 (w := Cond.methodLink RL 198 yX11_turnByRepeating) 45 (rfl) (rfl)
theorem lkX11_203 : Cond.methodLink RX11 203 yX11_turnOf ∈ WALL := inT8 (w := Cond.methodLink RX11 203 yX11_turnOf) 49 (rfl) (rfl)
theorem lkL_201 : Cond.methodLink RL 201 yX11_evenness ∈ WALL := inT8 (w := Cond.methodLink RL 201 yX11_evenness) 50 (rfl) (rfl)
theorem lkX11_212 : Cond.methodLink RX11 212 yX11_far ∈ WALL := inT8 (w := Cond.methodLink RX11 212 yX11_far) 54 (rfl) (rfl)
theorem lkX11_206 : Cond.methodLink RX11 206 yJ9_abs_0f7a4 ∈ WALL := inT8 (w := Cond.methodLink RX11 206 yJ9_abs_0f7a4) 57 (rfl) (rfl)
theorem lkX11_209 : Cond.methodLink RX11 209 yJ9_min_7cf53 ∈ WALL := inT8 (w := Cond.methodLink RX11 209 yJ9_min_7cf53) 58 (rfl) (rfl)
theorem lkL_204 : Cond.methodLink RL 204 yX11_evenOrders ∈ WALL := inT8 (w := Cond.methodLink RL 204 yX11_evenOrders) 59 (rfl) (rfl)
theorem lkX11_215 : Cond.constantLong RX11 215 (4) ∈ WALL := inT8 (w := Cond.constantLong RX11 215 (4)) 63 (rfl) (rfl)
theorem lkL_207 : Cond.methodLink RL 207 yX11_evenOrdersByTrying ∈ WALL := inT8 (w := Cond.methodLink RL 207 yX11_evenOrdersByTrying) 64 (rfl) (rfl)
theorem lkX11_217 : Cond.methodLink RX11 217 yX11_evenOrders ∈ WALL := inT8 (w := Cond.methodLink RX11 217 yX11_evenOrders) 68 (rfl) (rfl)
theorem lkL_219 : Cond.methodLink RL 219 yX11_leastOilAfter ∈ WALL := inT8 (w := Cond.methodLink RL 219 yX11_leastOilAfter) 69 (rfl) (rfl)
theorem lkX11_220 : Cond.constantLong RX11 220 (999) ∈ WALL := inT8 (w := Cond.constantLong RX11 220 (999)) 73 (rfl) (rfl)
theorem lkL_222 : Cond.methodLink RL 222 yX11_leastOilAfterByGiving ∈ WALL := inT8 (w := Cond.methodLink RL 222 yX11_leastOilAfterByGiving) 74 (rfl) (rfl)
theorem lkX11_222 : Cond.methodLink RX11 222 yX11_leastOilAfter ∈ WALL := inT8 (w := Cond.methodLink RX11 222 yX11_leastOilAfter) 78 (rfl) (rfl)
theorem lkL_228 : Cond.methodLink RL 228 yX11_oilOf ∈ WALL := inT8 (w := Cond.methodLink RL 228 yX11_oilOf) 79 (rfl) (rfl)
theorem lkX11_225 : Cond.methodLink RX11 225 yX11_ofCylinder ∈ WALL := inT8 (w := Cond.methodLink RX11 225 yX11_ofCylinder) 83 (rfl) (rfl)
theorem lkL_231 : Cond.methodLink RL 231 yX11_wearOf ∈ WALL := inT8 (w := Cond.methodLink RL 231 yX11_wearOf) 87 (rfl) (rfl)
theorem lkL_235 : Cond.methodLink RL 235 yX11_allOil ∈ WALL := inT8 (w := Cond.methodLink RL 235 yX11_allOil) 91 (rfl) (rfl)
theorem lkX11_228 : Cond.methodLink RX11 228 yX11_inEngines ∈ WALL := inT8 (w := Cond.methodLink RX11 228 yX11_inEngines) 95 (rfl) (rfl)
theorem lkL_239 : Cond.methodLink RL 239 yX11_allOilByAccounts ∈ WALL := inT8 (w := Cond.methodLink RL 239 yX11_allOilByAccounts) 99 (rfl) (rfl)
theorem lkX11_231 : Cond.methodLink RX11 231 yX11_allOil ∈ WALL := inT8 (w := Cond.methodLink RX11 231 yX11_allOil) 103 (rfl) (rfl)
theorem lkL_242 : Cond.methodLink RL 242 yX11_knockCount ∈ WALL := inT8 (w := Cond.methodLink RL 242 yX11_knockCount) 104 (rfl) (rfl)
theorem lkL_245 : Cond.methodLink RL 245 yX11_knockAt ∈ WALL := inT8 (w := Cond.methodLink RL 245 yX11_knockAt) 108 (rfl) (rfl)
theorem lkL_248 : Cond.methodLink RL 248 yX11_knockPeriod ∈ WALL := inT8 (w := Cond.methodLink RL 248 yX11_knockPeriod) 112 (rfl) (rfl)
theorem lkL_251 : Cond.methodLink RL 251 yX11_knockPeriodByTrying ∈ WALL := inT8 (w := Cond.methodLink RL 251 yX11_knockPeriodByTrying) 116 (rfl) (rfl)
theorem lkX11_234 : Cond.methodLink RX11 234 yX11_knockPeriod ∈ WALL := inT8 (w := Cond.methodLink RX11 234 yX11_knockPeriod) 120 (rfl) (rfl)
theorem lkL_254 : Cond.methodLink RL 254 yX11_engineAtRank ∈ WALL := inT8 (w := Cond.methodLink RL 254 yX11_engineAtRank) 121 (rfl) (rfl)
theorem lkX11_237 : Cond.methodLink RX11 237 yX11_worn ∈ WALL := inT8 (w := Cond.methodLink RX11 237 yX11_worn) 125 (rfl) (rfl)
theorem lkL_266 : Cond.methodLink RL 266 yX11_mostVigils ∈ WALL := inT8 (w := Cond.methodLink RL 266 yX11_mostVigils) 129 (rfl) (rfl)
theorem lkX11_240 : Cond.methodLink RX11 240 yX11_rotas ∈ WALL := inT8 (w := Cond.methodLink RX11 240 yX11_rotas) 133 (rfl) (rfl)
theorem lkX11_106 : Cond.methodLink RX11 106 yX11_behind ∈ WALL := inT8 (w := Cond.methodLink RX11 106 yX11_behind) 137 (rfl) (rfl)
theorem lkX11_102 : Cond.methodLink RX11 102 yX11_isAble ∈ WALL := inT8 (w := Cond.methodLink RX11 102 yX11_isAble) 141 (rfl) (rfl)
theorem lkX11_110 : Cond.methodLink RX11 110 yJ9_max_7cf53 ∈ WALL := inT8 (w := Cond.methodLink RX11 110 yJ9_max_7cf53) 145 (rfl) (rfl)
theorem lkL_270 : Cond.methodLink RL 270 yX11_mostVigilsByTable ∈ WALL := inT8 (w := Cond.methodLink RL 270 yX11_mostVigilsByTable) 146 (rfl) (rfl)
theorem lkX11_243 : Cond.methodLink RX11 243 yX11_mostVigils ∈ WALL := inT8 (w := Cond.methodLink RX11 243 yX11_mostVigils) 150 (rfl) (rfl)
theorem lkL_273 : Cond.methodLink RL 273 yX11_keeperOf ∈ WALL := inT8 (w := Cond.methodLink RL 273 yX11_keeperOf) 151 (rfl) (rfl)
theorem lkL_283 : Cond.methodLink RL 283 yX11_repairCount ∈ WALL := inT8 (w := Cond.methodLink RL 283 yX11_repairCount) 155 (rfl) (rfl)
theorem lkL_287 : Cond.methodLink RL 287 yX11_leastPenance ∈ WALL := inT8 (w := Cond.methodLink RL 287 yX11_leastPenance) 159 (rfl) (rfl)
theorem lkX11_246 : Cond.methodLink RX11 246 yX11_before ∈ WALL := inT8 (w := Cond.methodLink RX11 246 yX11_before) 163 (rfl) (rfl)
theorem lkL_291 : Cond.methodLink RL 291 yX11_leastPenanceByTable ∈ WALL := inT8 (w := Cond.methodLink RL 291 yX11_leastPenanceByTable) 167 (rfl) (rfl)
theorem lkX11_249 : Cond.methodLink RX11 249 yX11_leastPenance ∈ WALL := inT8 (w := Cond.methodLink RX11 249 yX11_leastPenance) 171 (rfl) (rfl)
theorem lkL_298 : Cond.methodLink RL 298 yX11_penanceDone ∈ WALL := inT8 (w := Cond.methodLink RL 298 yX11_penanceDone) 172 (rfl) (rfl)
theorem lkL_305 : Cond.methodLink RL 305 yX11_hour ∈ WALL := inT8 (w := Cond.methodLink RL 305 yX11_hour) 176 (rfl) (rfl)
theorem lkL_308 : Cond.methodLink RL 308 yX11_knocksIn ∈ WALL := inT8 (w := Cond.methodLink RL 308 yX11_knocksIn) 180 (rfl) (rfl)
theorem lkL_311 : Cond.methodLink RL 311 yX11_hourOfKnocks ∈ WALL := inT8 (w := Cond.methodLink RL 311 yX11_hourOfKnocks) 184 (rfl) (rfl)
theorem lkL_315 : Cond.methodLink RL 315 yX11_append ∈ WALL := inT8 (w := Cond.methodLink RL 315 yX11_append) 188 (rfl) (rfl)
theorem lkX11_252 : Cond.constantLong RX11 252 (32) ∈ WALL := inT8 (w := Cond.constantLong RX11 252 (32)) 192 (rfl) (rfl)
theorem lkX11_254 : Cond.constantLong RX11 254 (126) ∈ WALL := inT8 (w := Cond.constantLong RX11 254 (126)) 193 (rfl) (rfl)
theorem lkL_318 : Cond.methodLink RL 318 yX11_execute ∈ WALL := inT8 (w := Cond.methodLink RL 318 yX11_execute) 194 (rfl) (rfl)
theorem lkX11_298 : Cond.methodLink RX11 298 yX11_readCommand ∈ WALL := inT8 (w := Cond.methodLink RX11 298 yX11_readCommand) 198 (rfl) (rfl)
theorem lkX11_292 : Cond.methodLink RX11 292 yX11_likeness ∈ WALL := inT8 (w := Cond.methodLink RX11 292 yX11_likeness) 202 (rfl) (rfl)
theorem lkX11_295 : Cond.methodLink RX11 295 yX11_readArguments ∈ WALL := inT8 (w := Cond.methodLink RX11 295 yX11_readArguments) 206 (rfl) (rfl)
theorem lkX11_280 : Cond.methodLink RX11 280 yX11_number ∈ WALL := inT8 (w := Cond.methodLink RX11 280 yX11_number) 210 (rfl) (rfl)
theorem lkX11_274 : Cond.methodLink RX11 274 yX11_digit ∈ WALL := inT8 (w := Cond.methodLink RX11 274 yX11_digit) 214 (rfl) (rfl)
theorem lkX11_269 : Cond.methodLink RX11 269 yX11_here ∈ WALL := inT8 (w := Cond.methodLink RX11 269 yX11_here) 218 (rfl) (rfl)
theorem lkX11_272 : Cond.constantLong RX11 272 (57) ∈ WALL := inT8 (w := Cond.constantLong RX11 272 (57)) 222 (rfl) (rfl)
theorem lkX11_283 : Cond.methodLink RX11 283 yX11_digitBehind ∈ WALL := inT8 (w := Cond.methodLink RX11 283 yX11_digitBehind) 223 (rfl) (rfl)
theorem lkX11_277 : Cond.methodLink RX11 277 yX11_expects ∈ WALL := inT8 (w := Cond.methodLink RX11 277 yX11_expects) 227 (rfl) (rfl)
theorem lkX11_286 : Cond.methodLink RX11 286 yX11_numberBehind ∈ WALL := inT8 (w := Cond.methodLink RX11 286 yX11_numberBehind) 231 (rfl) (rfl)
theorem lkX11_301 : Cond.methodLink RX11 301 yX11_does ∈ WALL := inT8 (w := Cond.methodLink RX11 301 yX11_does) 235 (rfl) (rfl)
theorem lkL_321 : Cond.methodLink RL 321 yX11_errorPosition ∈ WALL := inT8 (w := Cond.methodLink RL 321 yX11_errorPosition) 239 (rfl) (rfl)
theorem lkL_324 : Cond.methodLink RL 324 yX11_failedCommand ∈ WALL := inT9 (w := Cond.methodLink RL 324 yX11_failedCommand) 3 (rfl) (rfl)
theorem lkL_327 : Cond.methodLink RL 327 yX11_describeEngine ∈ WALL := inT9 (w := Cond.methodLink RL 327 yX11_describeEngine) 7 (rfl) (rfl)
theorem lkX11_307 : Cond.methodLink RX11 307 yX11_sign ∈ WALL := inT9 (w := Cond.methodLink RX11 307 yX11_sign) 11 (rfl) (rfl)
theorem lkL_331 : Cond.methodLink RL 331 yX11_describeRota ∈ WALL := inT9 (w := Cond.methodLink RL 331 yX11_describeRota) 15 (rfl) (rfl)
theorem lkL_334 : Cond.methodLink RL 334 yX11_lineAt ∈ WALL := inT9 (w := Cond.methodLink RL 334 yX11_lineAt) 19 (rfl) (rfl)
theorem lkL_338 : Cond.methodLink RL 338 yX11_meanOil ∈ WALL := inT9 (w := Cond.methodLink RL 338 yX11_meanOil) 23 (rfl) (rfl)
theorem lkL_343 : Cond.methodLink RL 343 yX11_vigilShare ∈ WALL := inT9 (w := Cond.methodLink RL 343 yX11_vigilShare) 27 (rfl) (rfl)
theorem lkX11_310 : Cond.constantFloat RX11 310 (1090519040) ∈ WALL := inT9 (w := Cond.constantFloat RX11 310 (1090519040)) 31 (rfl) (rfl)
theorem lkL_348 : Cond.methodLink RL 348 yX11_isConsistent ∈ WALL := inT9 (w := Cond.methodLink RL 348 yX11_isConsistent) 32 (rfl) (rfl)
theorem lkL_351 : Cond.methodLink RL 351 yX11_undo ∈ WALL := inT9 (w := Cond.methodLink RL 351 yX11_undo) 36 (rfl) (rfl)
theorem lkL_355 : Cond.methodLink RL 355 yX11_save ∈ WALL := inT9 (w := Cond.methodLink RL 355 yX11_save) 40 (rfl) (rfl)
theorem lkL_358 : Cond.methodLink RL 358 yX11_restore ∈ WALL := inT9 (w := Cond.methodLink RL 358 yX11_restore) 44 (rfl) (rfl)
theorem lkJ0_9 : Cond.fieldLink RJ0 9 "java/lang/String" "value" "[B" ∈ WALL := inT9 (w := Cond.fieldLink RJ0 9 "java/lang/String" "value" "[B") 72 (rfl) (rfl)
theorem lkJ0_15 : Cond.fieldLink RJ0 15 "java/lang/String" "coder" "B" ∈ WALL := inT9 (w := Cond.fieldLink RJ0 15 "java/lang/String" "coder" "B") 73 (rfl) (rfl)
theorem lk_objI : Cond.instanceMethod Lib.objectInit ∈ WALL := inT1 (w := Cond.instanceMethod Lib.objectInit) 34 (rfl) (rfl)
theorem lk_sysI : Cond.initialized "java/lang/System" ∈ WALL := inT1 (w := Cond.initialized "java/lang/System") 19 (rfl) (rfl)
theorem lk_mathI : Cond.initialized "java/lang/Math" ∈ WALL := inT1 (w := Cond.initialized "java/lang/Math") 20 (rfl) (rfl)
theorem lk_minS : Cond.static Lib.Math.min.name ∈ WALL := inT2 (w := Cond.static Lib.Math.min.name) 178 (rfl) (rfl)
theorem lk_minC : Cond.code Lib.Math.min.name Lib.Math.min.code 2 (some .int) ∈ WALL := inT2 (w := Cond.code Lib.Math.min.name Lib.Math.min.code 2 (some .int)) 179 (rfl) (rfl)
theorem lk_maxS : Cond.static Lib.Math.max.name ∈ WALL := inT2 (w := Cond.static Lib.Math.max.name) 140 (rfl) (rfl)
theorem lk_maxC : Cond.code Lib.Math.max.name Lib.Math.max.code 2 (some .int) ∈ WALL := inT2 (w := Cond.code Lib.Math.max.name Lib.Math.max.code 2 (some .int)) 141 (rfl) (rfl)
theorem lk_absS : Cond.static Lib.Math.abs.name ∈ WALL := inT3 (w := Cond.static Lib.Math.abs.name) 130 (rfl) (rfl)
theorem lk_absC : Cond.code Lib.Math.abs.name Lib.Math.abs.code 1 (some .int) ∈ WALL := inT3 (w := Cond.code Lib.Math.abs.name Lib.Math.abs.code 1 (some .int)) 131 (rfl) (rfl)
theorem lk_copystatic : Cond.static arraycopyName ∈ WALL := inT3 (w := Cond.static arraycopyName) 235 (rfl) (rfl)
theorem lk_copynative : Cond.native arraycopyName ∈ WALL := inT3 (w := Cond.native arraycopyName) 236 (rfl) (rfl)
theorem lk_objC : Cond.code Lib.objectInit ⟨#[0xb1]⟩ 1 none ∈ WALL := inT1 (w := Cond.code Lib.objectInit ⟨#[0xb1]⟩ 1 none) 35 (rfl) (rfl)
