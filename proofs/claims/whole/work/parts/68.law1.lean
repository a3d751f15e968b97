/-! the law: names, tables of handlers, its calls that catch (written by wip/whole/c_law1.py) -/
abbrev M_Law_bus : MI := (⟨"CascadeBusLaw", "bus", "(LCascadeBus;I[J)I"⟩, method_3_code, 4, some .int, [(0, 9, 12, 13)])
set_option maxRecDepth 20000 in
theorem cwh_Law_bus : Cond.codeWith M_Law_bus.1 M_Law_bus.2.1 M_Law_bus.2.2.1 M_Law_bus.2.2.2.1 M_Law_bus.2.2.2.2 ∈ gw := gm3 (i := 191) rfl rfl
theorem e_Law_bus_0 : decode M_Law_bus.2.1 0 = .ok (.aload_n 2, 1) := by decide +kernel
theorem e_Law_bus_1 : decode M_Law_bus.2.1 1 = .ok (.iconst 0, 1) := by decide +kernel
theorem e_Law_bus_2 : decode M_Law_bus.2.1 2 = .ok (.aload_n 0, 1) := by decide +kernel
theorem e_Law_bus_3 : decode M_Law_bus.2.1 3 = .ok (.iload_n 1, 1) := by decide +kernel
theorem e_Law_bus_4 : decode M_Law_bus.2.1 4 = .ok (.invokevirtual 7, 3) := by decide +kernel
theorem e_Law_bus_7 : decode M_Law_bus.2.1 7 = .ok (.i2l, 1) := by decide +kernel
theorem e_Law_bus_8 : decode M_Law_bus.2.1 8 = .ok (.lastore, 1) := by decide +kernel
theorem e_Law_bus_9 : decode M_Law_bus.2.1 9 = .ok (.goto 6, 3) := by decide +kernel
theorem e_Law_bus_12 : decode M_Law_bus.2.1 12 = .ok (.astore_n 3, 1) := by decide +kernel
theorem e_Law_bus_13 : decode M_Law_bus.2.1 13 = .ok (.iconst 1, 1) := by decide +kernel
theorem e_Law_bus_14 : decode M_Law_bus.2.1 14 = .ok (.ireturn, 1) := by decide +kernel
theorem e_Law_bus_15 : decode M_Law_bus.2.1 15 = .ok (.iconst 0, 1) := by decide +kernel
theorem e_Law_bus_16 : decode M_Law_bus.2.1 16 = .ok (.ireturn, 1) := by decide +kernel
abbrev M_Law_count : MI := (⟨"CascadeBusLaw", "count", "(LCascadeBus;I[J)I"⟩, method_4_code, 4, some .int, [(0, 9, 12, 18)])
set_option maxRecDepth 20000 in
theorem cwh_Law_count : Cond.codeWith M_Law_count.1 M_Law_count.2.1 M_Law_count.2.2.1 M_Law_count.2.2.2.1 M_Law_count.2.2.2.2 ∈ gw := gm4 (i := 230) rfl rfl
theorem e_Law_count_0 : decode M_Law_count.2.1 0 = .ok (.aload_n 2, 1) := by decide +kernel
theorem e_Law_count_1 : decode M_Law_count.2.1 1 = .ok (.iconst 0, 1) := by decide +kernel
theorem e_Law_count_2 : decode M_Law_count.2.1 2 = .ok (.aload_n 0, 1) := by decide +kernel
theorem e_Law_count_3 : decode M_Law_count.2.1 3 = .ok (.iload_n 1, 1) := by decide +kernel
theorem e_Law_count_4 : decode M_Law_count.2.1 4 = .ok (.invokevirtual 15, 3) := by decide +kernel
theorem e_Law_count_7 : decode M_Law_count.2.1 7 = .ok (.i2l, 1) := by decide +kernel
theorem e_Law_count_8 : decode M_Law_count.2.1 8 = .ok (.lastore, 1) := by decide +kernel
theorem e_Law_count_9 : decode M_Law_count.2.1 9 = .ok (.goto 6, 3) := by decide +kernel
theorem e_Law_count_12 : decode M_Law_count.2.1 12 = .ok (.astore_n 3, 1) := by decide +kernel
theorem e_Law_count_13 : decode M_Law_count.2.1 13 = .ok (.iconst 1, 1) := by decide +kernel
theorem e_Law_count_14 : decode M_Law_count.2.1 14 = .ok (.ireturn, 1) := by decide +kernel
theorem e_Law_count_15 : decode M_Law_count.2.1 15 = .ok (.iconst 0, 1) := by decide +kernel
theorem e_Law_count_16 : decode M_Law_count.2.1 16 = .ok (.ireturn, 1) := by decide +kernel
abbrev M_Law_block : MI := (⟨"CascadeBusLaw", "block", "(LCascadeBus;II[J)I"⟩, method_5_code, 5, some .int, [(0, 10, 13, 18)])
set_option maxRecDepth 20000 in
theorem cwh_Law_block : Cond.codeWith M_Law_block.1 M_Law_block.2.1 M_Law_block.2.2.1 M_Law_block.2.2.2.1 M_Law_block.2.2.2.2 ∈ gw := gm5 (i := 13) rfl rfl
theorem e_Law_block_0 : decode M_Law_block.2.1 0 = .ok (.aload_n 3, 1) := by decide +kernel
theorem e_Law_block_1 : decode M_Law_block.2.1 1 = .ok (.iconst 0, 1) := by decide +kernel
theorem e_Law_block_2 : decode M_Law_block.2.1 2 = .ok (.aload_n 0, 1) := by decide +kernel
theorem e_Law_block_3 : decode M_Law_block.2.1 3 = .ok (.iload_n 1, 1) := by decide +kernel
theorem e_Law_block_4 : decode M_Law_block.2.1 4 = .ok (.iload_n 2, 1) := by decide +kernel
theorem e_Law_block_5 : decode M_Law_block.2.1 5 = .ok (.invokevirtual 20, 3) := by decide +kernel
theorem e_Law_block_8 : decode M_Law_block.2.1 8 = .ok (.i2l, 1) := by decide +kernel
theorem e_Law_block_9 : decode M_Law_block.2.1 9 = .ok (.lastore, 1) := by decide +kernel
theorem e_Law_block_10 : decode M_Law_block.2.1 10 = .ok (.goto 7, 3) := by decide +kernel
theorem e_Law_block_13 : decode M_Law_block.2.1 13 = .ok (.astore 4, 2) := by decide +kernel
theorem e_Law_block_15 : decode M_Law_block.2.1 15 = .ok (.iconst 1, 1) := by decide +kernel
theorem e_Law_block_16 : decode M_Law_block.2.1 16 = .ok (.ireturn, 1) := by decide +kernel
theorem e_Law_block_17 : decode M_Law_block.2.1 17 = .ok (.iconst 0, 1) := by decide +kernel
theorem e_Law_block_18 : decode M_Law_block.2.1 18 = .ok (.ireturn, 1) := by decide +kernel
abbrev M_Law_link : MI := (⟨"CascadeBusLaw", "link", "(LCascadeBus;II[J)I"⟩, method_6_code, 5, some .int, [(0, 10, 13, 18)])
set_option maxRecDepth 20000 in
theorem cwh_Law_link : Cond.codeWith M_Law_link.1 M_Law_link.2.1 M_Law_link.2.2.1 M_Law_link.2.2.2.1 M_Law_link.2.2.2.2 ∈ gw := gm5 (i := 24) rfl rfl
theorem e_Law_link_0 : decode M_Law_link.2.1 0 = .ok (.aload_n 3, 1) := by decide +kernel
theorem e_Law_link_1 : decode M_Law_link.2.1 1 = .ok (.iconst 0, 1) := by decide +kernel
theorem e_Law_link_2 : decode M_Law_link.2.1 2 = .ok (.aload_n 0, 1) := by decide +kernel
theorem e_Law_link_3 : decode M_Law_link.2.1 3 = .ok (.iload_n 1, 1) := by decide +kernel
theorem e_Law_link_4 : decode M_Law_link.2.1 4 = .ok (.iload_n 2, 1) := by decide +kernel
theorem e_Law_link_5 : decode M_Law_link.2.1 5 = .ok (.invokevirtual 24, 3) := by decide +kernel
theorem e_Law_link_8 : decode M_Law_link.2.1 8 = .ok (.i2l, 1) := by decide +kernel
theorem e_Law_link_9 : decode M_Law_link.2.1 9 = .ok (.lastore, 1) := by decide +kernel
theorem e_Law_link_10 : decode M_Law_link.2.1 10 = .ok (.goto 7, 3) := by decide +kernel
theorem e_Law_link_13 : decode M_Law_link.2.1 13 = .ok (.astore 4, 2) := by decide +kernel
theorem e_Law_link_15 : decode M_Law_link.2.1 15 = .ok (.iconst 1, 1) := by decide +kernel
theorem e_Law_link_16 : decode M_Law_link.2.1 16 = .ok (.ireturn, 1) := by decide +kernel
theorem e_Law_link_17 : decode M_Law_link.2.1 17 = .ok (.iconst 0, 1) := by decide +kernel
theorem e_Law_link_18 : decode M_Law_link.2.1 18 = .ok (.ireturn, 1) := by decide +kernel
abbrev M_Law_plant : MI := (⟨"CascadeBusLaw", "plant", "(LCascadeBus;II[J)I"⟩, method_7_code, 5, some .int, [(0, 10, 13, 18)])
set_option maxRecDepth 20000 in
theorem cwh_Law_plant : Cond.codeWith M_Law_plant.1 M_Law_plant.2.1 M_Law_plant.2.2.1 M_Law_plant.2.2.2.1 M_Law_plant.2.2.2.2 ∈ gw := gm5 (i := 31) rfl rfl
theorem e_Law_plant_0 : decode M_Law_plant.2.1 0 = .ok (.aload_n 3, 1) := by decide +kernel
theorem e_Law_plant_1 : decode M_Law_plant.2.1 1 = .ok (.iconst 0, 1) := by decide +kernel
theorem e_Law_plant_2 : decode M_Law_plant.2.1 2 = .ok (.aload_n 0, 1) := by decide +kernel
theorem e_Law_plant_3 : decode M_Law_plant.2.1 3 = .ok (.iload_n 1, 1) := by decide +kernel
theorem e_Law_plant_4 : decode M_Law_plant.2.1 4 = .ok (.iload_n 2, 1) := by decide +kernel
theorem e_Law_plant_5 : decode M_Law_plant.2.1 5 = .ok (.invokevirtual 27, 3) := by decide +kernel
theorem e_Law_plant_8 : decode M_Law_plant.2.1 8 = .ok (.i2l, 1) := by decide +kernel
theorem e_Law_plant_9 : decode M_Law_plant.2.1 9 = .ok (.lastore, 1) := by decide +kernel
theorem e_Law_plant_10 : decode M_Law_plant.2.1 10 = .ok (.goto 7, 3) := by decide +kernel
theorem e_Law_plant_13 : decode M_Law_plant.2.1 13 = .ok (.astore 4, 2) := by decide +kernel
theorem e_Law_plant_15 : decode M_Law_plant.2.1 15 = .ok (.iconst 1, 1) := by decide +kernel
theorem e_Law_plant_16 : decode M_Law_plant.2.1 16 = .ok (.ireturn, 1) := by decide +kernel
theorem e_Law_plant_17 : decode M_Law_plant.2.1 17 = .ok (.iconst 0, 1) := by decide +kernel
theorem e_Law_plant_18 : decode M_Law_plant.2.1 18 = .ok (.ireturn, 1) := by decide +kernel
abbrev M_Law_then : MI := (⟨"CascadeBusLaw", "then", "(LCascadeBus;III[J)I"⟩, method_8_code, 6, some .int, [(0, 12, 15, 18), (0, 12, 19, 13)])
set_option maxRecDepth 20000 in
theorem cwh_Law_then : Cond.codeWith M_Law_then.1 M_Law_then.2.1 M_Law_then.2.2.1 M_Law_then.2.2.2.1 M_Law_then.2.2.2.2 ∈ gw := gm5 (i := 39) rfl rfl
theorem e_Law_then_0 : decode M_Law_then.2.1 0 = .ok (.aload 4, 2) := by decide +kernel
theorem e_Law_then_2 : decode M_Law_then.2.1 2 = .ok (.iconst 0, 1) := by decide +kernel
theorem e_Law_then_3 : decode M_Law_then.2.1 3 = .ok (.aload_n 0, 1) := by decide +kernel
theorem e_Law_then_4 : decode M_Law_then.2.1 4 = .ok (.iload_n 1, 1) := by decide +kernel
theorem e_Law_then_5 : decode M_Law_then.2.1 5 = .ok (.iload_n 2, 1) := by decide +kernel
theorem e_Law_then_6 : decode M_Law_then.2.1 6 = .ok (.iload_n 3, 1) := by decide +kernel
theorem e_Law_then_7 : decode M_Law_then.2.1 7 = .ok (.invokevirtual 30, 3) := by decide +kernel
theorem e_Law_then_10 : decode M_Law_then.2.1 10 = .ok (.i2l, 1) := by decide +kernel
theorem e_Law_then_11 : decode M_Law_then.2.1 11 = .ok (.lastore, 1) := by decide +kernel
theorem e_Law_then_12 : decode M_Law_then.2.1 12 = .ok (.goto 11, 3) := by decide +kernel
theorem e_Law_then_15 : decode M_Law_then.2.1 15 = .ok (.astore 5, 2) := by decide +kernel
theorem e_Law_then_17 : decode M_Law_then.2.1 17 = .ok (.iconst 1, 1) := by decide +kernel
theorem e_Law_then_18 : decode M_Law_then.2.1 18 = .ok (.ireturn, 1) := by decide +kernel
theorem e_Law_then_19 : decode M_Law_then.2.1 19 = .ok (.astore 5, 2) := by decide +kernel
theorem e_Law_then_21 : decode M_Law_then.2.1 21 = .ok (.iconst 2, 1) := by decide +kernel
theorem e_Law_then_22 : decode M_Law_then.2.1 22 = .ok (.ireturn, 1) := by decide +kernel
theorem e_Law_then_23 : decode M_Law_then.2.1 23 = .ok (.iconst 0, 1) := by decide +kernel
theorem e_Law_then_24 : decode M_Law_then.2.1 24 = .ok (.ireturn, 1) := by decide +kernel
abbrev M_Law_first : MI := (⟨"CascadeBusLaw", "first", "(LCascadeBus;I[J)I"⟩, method_9_code, 4, some .int, [(0, 9, 12, 18)])
set_option maxRecDepth 20000 in
theorem cwh_Law_first : Cond.codeWith M_Law_first.1 M_Law_first.2.1 M_Law_first.2.2.1 M_Law_first.2.2.2.1 M_Law_first.2.2.2.2 ∈ gw := gm5 (i := 52) rfl rfl
theorem e_Law_first_0 : decode M_Law_first.2.1 0 = .ok (.aload_n 2, 1) := by decide +kernel
theorem e_Law_first_1 : decode M_Law_first.2.1 1 = .ok (.iconst 0, 1) := by decide +kernel
theorem e_Law_first_2 : decode M_Law_first.2.1 2 = .ok (.aload_n 0, 1) := by decide +kernel
theorem e_Law_first_3 : decode M_Law_first.2.1 3 = .ok (.iload_n 1, 1) := by decide +kernel
theorem e_Law_first_4 : decode M_Law_first.2.1 4 = .ok (.invokevirtual 34, 3) := by decide +kernel
theorem e_Law_first_7 : decode M_Law_first.2.1 7 = .ok (.i2l, 1) := by decide +kernel
theorem e_Law_first_8 : decode M_Law_first.2.1 8 = .ok (.lastore, 1) := by decide +kernel
theorem e_Law_first_9 : decode M_Law_first.2.1 9 = .ok (.goto 6, 3) := by decide +kernel
theorem e_Law_first_12 : decode M_Law_first.2.1 12 = .ok (.astore_n 3, 1) := by decide +kernel
theorem e_Law_first_13 : decode M_Law_first.2.1 13 = .ok (.iconst 1, 1) := by decide +kernel
theorem e_Law_first_14 : decode M_Law_first.2.1 14 = .ok (.ireturn, 1) := by decide +kernel
theorem e_Law_first_15 : decode M_Law_first.2.1 15 = .ok (.iconst 0, 1) := by decide +kernel
theorem e_Law_first_16 : decode M_Law_first.2.1 16 = .ok (.ireturn, 1) := by decide +kernel
abbrev M_Law_jump : MI := (⟨"CascadeBusLaw", "jump", "(LCascadeBus;II[J)I"⟩, method_10_code, 5, some .int, [(0, 10, 13, 18), (0, 10, 17, 13)])
set_option maxRecDepth 20000 in
theorem cwh_Law_jump : Cond.codeWith M_Law_jump.1 M_Law_jump.2.1 M_Law_jump.2.2.1 M_Law_jump.2.2.2.1 M_Law_jump.2.2.2.2 ∈ gw := gm5 (i := 59) rfl rfl
theorem e_Law_jump_0 : decode M_Law_jump.2.1 0 = .ok (.aload_n 3, 1) := by decide +kernel
theorem e_Law_jump_1 : decode M_Law_jump.2.1 1 = .ok (.iconst 0, 1) := by decide +kernel
theorem e_Law_jump_2 : decode M_Law_jump.2.1 2 = .ok (.aload_n 0, 1) := by decide +kernel
theorem e_Law_jump_3 : decode M_Law_jump.2.1 3 = .ok (.iload_n 1, 1) := by decide +kernel
theorem e_Law_jump_4 : decode M_Law_jump.2.1 4 = .ok (.iload_n 2, 1) := by decide +kernel
theorem e_Law_jump_5 : decode M_Law_jump.2.1 5 = .ok (.invokevirtual 37, 3) := by decide +kernel
theorem e_Law_jump_8 : decode M_Law_jump.2.1 8 = .ok (.i2l, 1) := by decide +kernel
theorem e_Law_jump_9 : decode M_Law_jump.2.1 9 = .ok (.lastore, 1) := by decide +kernel
theorem e_Law_jump_10 : decode M_Law_jump.2.1 10 = .ok (.goto 11, 3) := by decide +kernel
theorem e_Law_jump_13 : decode M_Law_jump.2.1 13 = .ok (.astore 4, 2) := by decide +kernel
theorem e_Law_jump_15 : decode M_Law_jump.2.1 15 = .ok (.iconst 1, 1) := by decide +kernel
theorem e_Law_jump_16 : decode M_Law_jump.2.1 16 = .ok (.ireturn, 1) := by decide +kernel
theorem e_Law_jump_17 : decode M_Law_jump.2.1 17 = .ok (.astore 4, 2) := by decide +kernel
theorem e_Law_jump_19 : decode M_Law_jump.2.1 19 = .ok (.iconst 2, 1) := by decide +kernel
theorem e_Law_jump_20 : decode M_Law_jump.2.1 20 = .ok (.ireturn, 1) := by decide +kernel
theorem e_Law_jump_21 : decode M_Law_jump.2.1 21 = .ok (.iconst 0, 1) := by decide +kernel
theorem e_Law_jump_22 : decode M_Law_jump.2.1 22 = .ok (.ireturn, 1) := by decide +kernel
abbrev M_Law_lost : MI := (⟨"CascadeBusLaw", "lost", "(LCascadeBus;II[J)I"⟩, method_11_code, 5, some .int, [(0, 10, 13, 18), (0, 10, 17, 13)])
set_option maxRecDepth 20000 in
theorem cwh_Law_lost : Cond.codeWith M_Law_lost.1 M_Law_lost.2.1 M_Law_lost.2.2.1 M_Law_lost.2.2.2.1 M_Law_lost.2.2.2.2 ∈ gw := gm5 (i := 70) rfl rfl
theorem e_Law_lost_0 : decode M_Law_lost.2.1 0 = .ok (.aload_n 3, 1) := by decide +kernel
theorem e_Law_lost_1 : decode M_Law_lost.2.1 1 = .ok (.iconst 0, 1) := by decide +kernel
theorem e_Law_lost_2 : decode M_Law_lost.2.1 2 = .ok (.aload_n 0, 1) := by decide +kernel
theorem e_Law_lost_3 : decode M_Law_lost.2.1 3 = .ok (.iload_n 1, 1) := by decide +kernel
theorem e_Law_lost_4 : decode M_Law_lost.2.1 4 = .ok (.iload_n 2, 1) := by decide +kernel
theorem e_Law_lost_5 : decode M_Law_lost.2.1 5 = .ok (.invokevirtual 40, 3) := by decide +kernel
theorem e_Law_lost_8 : decode M_Law_lost.2.1 8 = .ok (.i2l, 1) := by decide +kernel
theorem e_Law_lost_9 : decode M_Law_lost.2.1 9 = .ok (.lastore, 1) := by decide +kernel
theorem e_Law_lost_10 : decode M_Law_lost.2.1 10 = .ok (.goto 11, 3) := by decide +kernel
theorem e_Law_lost_13 : decode M_Law_lost.2.1 13 = .ok (.astore 4, 2) := by decide +kernel
theorem e_Law_lost_15 : decode M_Law_lost.2.1 15 = .ok (.iconst 1, 1) := by decide +kernel
theorem e_Law_lost_16 : decode M_Law_lost.2.1 16 = .ok (.ireturn, 1) := by decide +kernel
theorem e_Law_lost_17 : decode M_Law_lost.2.1 17 = .ok (.astore 4, 2) := by decide +kernel
theorem e_Law_lost_19 : decode M_Law_lost.2.1 19 = .ok (.iconst 2, 1) := by decide +kernel
theorem e_Law_lost_20 : decode M_Law_lost.2.1 20 = .ok (.ireturn, 1) := by decide +kernel
theorem e_Law_lost_21 : decode M_Law_lost.2.1 21 = .ok (.iconst 0, 1) := by decide +kernel
theorem e_Law_lost_22 : decode M_Law_lost.2.1 22 = .ok (.ireturn, 1) := by decide +kernel
abbrev M_Law_toTune : MI := (⟨"CascadeBusLaw", "toTune", "(LCascadeBus;III[J)I"⟩, method_12_code, 6, some .int, [(0, 12, 15, 18), (0, 12, 19, 13)])
set_option maxRecDepth 20000 in
theorem cwh_Law_toTune : Cond.codeWith M_Law_toTune.1 M_Law_toTune.2.1 M_Law_toTune.2.2.1 M_Law_toTune.2.2.2.1 M_Law_toTune.2.2.2.2 ∈ gw := gm5 (i := 77) rfl rfl
theorem e_Law_toTune_0 : decode M_Law_toTune.2.1 0 = .ok (.aload 4, 2) := by decide +kernel
theorem e_Law_toTune_2 : decode M_Law_toTune.2.1 2 = .ok (.iconst 0, 1) := by decide +kernel
theorem e_Law_toTune_3 : decode M_Law_toTune.2.1 3 = .ok (.aload_n 0, 1) := by decide +kernel
theorem e_Law_toTune_4 : decode M_Law_toTune.2.1 4 = .ok (.iload_n 1, 1) := by decide +kernel
theorem e_Law_toTune_5 : decode M_Law_toTune.2.1 5 = .ok (.iload_n 2, 1) := by decide +kernel
theorem e_Law_toTune_6 : decode M_Law_toTune.2.1 6 = .ok (.iload_n 3, 1) := by decide +kernel
theorem e_Law_toTune_7 : decode M_Law_toTune.2.1 7 = .ok (.invokevirtual 43, 3) := by decide +kernel
theorem e_Law_toTune_10 : decode M_Law_toTune.2.1 10 = .ok (.i2l, 1) := by decide +kernel
theorem e_Law_toTune_11 : decode M_Law_toTune.2.1 11 = .ok (.lastore, 1) := by decide +kernel
theorem e_Law_toTune_12 : decode M_Law_toTune.2.1 12 = .ok (.goto 11, 3) := by decide +kernel
theorem e_Law_toTune_15 : decode M_Law_toTune.2.1 15 = .ok (.astore 5, 2) := by decide +kernel
theorem e_Law_toTune_17 : decode M_Law_toTune.2.1 17 = .ok (.iconst 1, 1) := by decide +kernel
theorem e_Law_toTune_18 : decode M_Law_toTune.2.1 18 = .ok (.ireturn, 1) := by decide +kernel
theorem e_Law_toTune_19 : decode M_Law_toTune.2.1 19 = .ok (.astore 5, 2) := by decide +kernel
theorem e_Law_toTune_21 : decode M_Law_toTune.2.1 21 = .ok (.iconst 2, 1) := by decide +kernel
theorem e_Law_toTune_22 : decode M_Law_toTune.2.1 22 = .ok (.ireturn, 1) := by decide +kernel
theorem e_Law_toTune_23 : decode M_Law_toTune.2.1 23 = .ok (.iconst 0, 1) := by decide +kernel
theorem e_Law_toTune_24 : decode M_Law_toTune.2.1 24 = .ok (.ireturn, 1) := by decide +kernel
abbrev M_Law_slack : MI := (⟨"CascadeBusLaw", "slack", "(LCascadeBus;I[J)I"⟩, method_13_code, 4, some .int, [(0, 9, 12, 18)])
set_option maxRecDepth 20000 in
theorem cwh_Law_slack : Cond.codeWith M_Law_slack.1 M_Law_slack.2.1 M_Law_slack.2.2.1 M_Law_slack.2.2.2.1 M_Law_slack.2.2.2.2 ∈ gw := gm5 (i := 89) rfl rfl
theorem e_Law_slack_0 : decode M_Law_slack.2.1 0 = .ok (.aload_n 2, 1) := by decide +kernel
theorem e_Law_slack_1 : decode M_Law_slack.2.1 1 = .ok (.iconst 0, 1) := by decide +kernel
theorem e_Law_slack_2 : decode M_Law_slack.2.1 2 = .ok (.aload_n 0, 1) := by decide +kernel
theorem e_Law_slack_3 : decode M_Law_slack.2.1 3 = .ok (.iload_n 1, 1) := by decide +kernel
theorem e_Law_slack_4 : decode M_Law_slack.2.1 4 = .ok (.invokevirtual 46, 3) := by decide +kernel
theorem e_Law_slack_7 : decode M_Law_slack.2.1 7 = .ok (.i2l, 1) := by decide +kernel
theorem e_Law_slack_8 : decode M_Law_slack.2.1 8 = .ok (.lastore, 1) := by decide +kernel
theorem e_Law_slack_9 : decode M_Law_slack.2.1 9 = .ok (.goto 6, 3) := by decide +kernel
theorem e_Law_slack_12 : decode M_Law_slack.2.1 12 = .ok (.astore_n 3, 1) := by decide +kernel
theorem e_Law_slack_13 : decode M_Law_slack.2.1 13 = .ok (.iconst 1, 1) := by decide +kernel
theorem e_Law_slack_14 : decode M_Law_slack.2.1 14 = .ok (.ireturn, 1) := by decide +kernel
theorem e_Law_slack_15 : decode M_Law_slack.2.1 15 = .ok (.iconst 0, 1) := by decide +kernel
theorem e_Law_slack_16 : decode M_Law_slack.2.1 16 = .ok (.ireturn, 1) := by decide +kernel
abbrev M_Law_look : MI := (⟨"CascadeBusLaw", "look", "(LCascadeBus;I[J)I"⟩, method_14_code, 4, some .int, [(0, 9, 12, 18)])
set_option maxRecDepth 20000 in
theorem cwh_Law_look : Cond.codeWith M_Law_look.1 M_Law_look.2.1 M_Law_look.2.2.1 M_Law_look.2.2.2.1 M_Law_look.2.2.2.2 ∈ gw := gm5 (i := 96) rfl rfl
theorem e_Law_look_0 : decode M_Law_look.2.1 0 = .ok (.aload_n 2, 1) := by decide +kernel
theorem e_Law_look_1 : decode M_Law_look.2.1 1 = .ok (.iconst 0, 1) := by decide +kernel
theorem e_Law_look_2 : decode M_Law_look.2.1 2 = .ok (.aload_n 0, 1) := by decide +kernel
theorem e_Law_look_3 : decode M_Law_look.2.1 3 = .ok (.iload_n 1, 1) := by decide +kernel
theorem e_Law_look_4 : decode M_Law_look.2.1 4 = .ok (.invokevirtual 49, 3) := by decide +kernel
theorem e_Law_look_7 : decode M_Law_look.2.1 7 = .ok (.i2l, 1) := by decide +kernel
theorem e_Law_look_8 : decode M_Law_look.2.1 8 = .ok (.lastore, 1) := by decide +kernel
theorem e_Law_look_9 : decode M_Law_look.2.1 9 = .ok (.goto 6, 3) := by decide +kernel
theorem e_Law_look_12 : decode M_Law_look.2.1 12 = .ok (.astore_n 3, 1) := by decide +kernel
theorem e_Law_look_13 : decode M_Law_look.2.1 13 = .ok (.iconst 1, 1) := by decide +kernel
theorem e_Law_look_14 : decode M_Law_look.2.1 14 = .ok (.ireturn, 1) := by decide +kernel
theorem e_Law_look_15 : decode M_Law_look.2.1 15 = .ok (.iconst 0, 1) := by decide +kernel
theorem e_Law_look_16 : decode M_Law_look.2.1 16 = .ok (.ireturn, 1) := by decide +kernel
abbrev M_Law_years : MI := (⟨"CascadeBusLaw", "years", "(LCascadeBus;III[J)I"⟩, method_15_code, 6, some .int, [(0, 12, 15, 18), (0, 12, 19, 13)])
set_option maxRecDepth 20000 in
theorem cwh_Law_years : Cond.codeWith M_Law_years.1 M_Law_years.2.1 M_Law_years.2.2.1 M_Law_years.2.2.2.1 M_Law_years.2.2.2.2 ∈ gw := gm5 (i := 115) rfl rfl
theorem e_Law_years_0 : decode M_Law_years.2.1 0 = .ok (.aload 4, 2) := by decide +kernel
theorem e_Law_years_2 : decode M_Law_years.2.1 2 = .ok (.iconst 0, 1) := by decide +kernel
theorem e_Law_years_3 : decode M_Law_years.2.1 3 = .ok (.aload_n 0, 1) := by decide +kernel
theorem e_Law_years_4 : decode M_Law_years.2.1 4 = .ok (.iload_n 1, 1) := by decide +kernel
theorem e_Law_years_5 : decode M_Law_years.2.1 5 = .ok (.iload_n 2, 1) := by decide +kernel
theorem e_Law_years_6 : decode M_Law_years.2.1 6 = .ok (.iload_n 3, 1) := by decide +kernel
theorem e_Law_years_7 : decode M_Law_years.2.1 7 = .ok (.invokevirtual 52, 3) := by decide +kernel
theorem e_Law_years_10 : decode M_Law_years.2.1 10 = .ok (.i2l, 1) := by decide +kernel
theorem e_Law_years_11 : decode M_Law_years.2.1 11 = .ok (.lastore, 1) := by decide +kernel
theorem e_Law_years_12 : decode M_Law_years.2.1 12 = .ok (.goto 11, 3) := by decide +kernel
theorem e_Law_years_15 : decode M_Law_years.2.1 15 = .ok (.astore 5, 2) := by decide +kernel
theorem e_Law_years_17 : decode M_Law_years.2.1 17 = .ok (.iconst 1, 1) := by decide +kernel
theorem e_Law_years_18 : decode M_Law_years.2.1 18 = .ok (.ireturn, 1) := by decide +kernel
theorem e_Law_years_19 : decode M_Law_years.2.1 19 = .ok (.astore 5, 2) := by decide +kernel
theorem e_Law_years_21 : decode M_Law_years.2.1 21 = .ok (.iconst 2, 1) := by decide +kernel
theorem e_Law_years_22 : decode M_Law_years.2.1 22 = .ok (.ireturn, 1) := by decide +kernel
theorem e_Law_years_23 : decode M_Law_years.2.1 23 = .ok (.iconst 0, 1) := by decide +kernel
theorem e_Law_years_24 : decode M_Law_years.2.1 24 = .ok (.ireturn, 1) := by decide +kernel
def wsH (M : MI) : List Cond := Cond.codeWith M.1 M.2.1 M.2.2.1 M.2.2.2.1 M.2.2.2.2 :: gw
/-- the contract of a method with a table of handlers -/
def PMH (g : GG) (M : MI) (d kc ks : Nat) (As : List Value) (h : Hp) (Q : QT) : Prop :=
  vx_Met (gl g) M.1 (wsH M) (rmM d kc ks) (PcM g As h) (Qc g Q) (Xc g Q) kc ks (A0 g)
theorem wsH_good {M : MI} (hc : Cond.codeWith M.1 M.2.1 M.2.2.1 M.2.2.2.1 M.2.2.2.2 ∈ gw) : GoodIn gw (wsH M) := by
  intro w hw
  rcases List.mem_cons.mp hw with rfl | hw
  · exact ⟨hc, gw_good _ hc⟩
  · exact ⟨hw, gw_good _ hw⟩
theorem PMH.of {g : GG} {M : MI} {d kc ks : Nat} {As : List Value} {h : Hp} {Q : QT} (hst : (gl g).stackTraces = false) (hy : plainName M.1.cls = true) (hcat : ∀ v ∈ As, v.category = 1) (hlen : As.length ≤ M.2.2.1)
    (k : PW g M d kc ks Q 0 (As ++ List.replicate (M.2.2.1 - As.length) (.retAddr 0)) [] h) : PMH g M d kc ks As h Q := by
  refine vx_ofWH (cc := M.2.1) (maxL := M.2.2.1) (ret := M.2.2.2.1) (hh := M.2.2.2.2) hy rfl ?_
  intro p e s m args below meth c s₁ B hml ⟨hv, hR, hof⟩
  subst hv
  have hts : ∀ w ∈ wsH M, w.before As.toArray s = true := atoms_spec (ws := wsH M) B.pre
  have ht : c.exceptionTable.toList = tableOf M.2.2.2.2 := vx_table (x := M.1) B (hts _ List.mem_cons_self)
  rw [lg_entry_eq]
  exact k p e _ s m _ below meth c s.heap [] 0 0 kc ks _ ⟨B.exec, B.bytes, hml, findClass_of_methodNamed B.named, fun w hw => hts w (List.mem_cons_of_mem _ hw), B.returns, B.notSynchronized, (name_of_methodNamed B.named B.method).1, hof, hst, ht⟩ (Nat.le_refl _) (Nat.le_refl _) (by omega) (by omega) (Nat.le_refl _) (Nat.le_refl _) hR va_S.rf (LH.entry hcat hlen)
def LSH (own : String) (idx : Nat) (M' : MI) (n : Nat) : Prop := ((M'.1.cls ≠ "java/lang/invoke/MethodHandle" ∧ M'.1.cls ≠ "java/lang/invoke/VarHandle" ∧ (parseMethodDescriptor M'.1.desc).map (fun d => d.parameters.length) = some n) ∧ M'.2.2.1 ≤ 21 ∧ Cond.initialized M'.1.cls ∈ gw ∧ Cond.codeWith M'.1 M'.2.1 M'.2.2.1 M'.2.2.2.1 M'.2.2.2.2 ∈ gw) ∧ Cond.methodLink own idx M'.1 ∈ gw ∧ Cond.static M'.1 ∈ gw
/-- what is thrown at pc is caught at hp -/
def CatchOK (M : MI) (pc : Nat) (E : String) (hp : Nat) : Prop := ∃ (pre : List ExceptionTableEntry) (x : ExceptionTableEntry) (suf : List ExceptionTableEntry), tableOf M.2.2.2.2 = pre ++ x :: suf ∧ (∀ z ∈ pre, covers z pc = false ∨ (z.catchType ≠ 0 ∧ Cond.classLink M.1.cls z.catchType "java/util/NoSuchElementException" ∈ gw ∧ E = "java/lang/IllegalArgumentException")) ∧ covers x pc = true ∧ x.catchType ≠ 0 ∧ Cond.classLink M.1.cls x.catchType E ∈ gw ∧ Cond.castable E E ∈ nws ∧ x.handlerPc = hp
section
variable {g : GG} {M : MI} {d kc ks : Nat} {Q : QT} {pc : Nat} {ls st : List Value} {h : Hp}
theorem pw_callSH {idx n d' kc' ks' : Nat} {M' : MI} {As : List Value} {Q' : QT} (dc : decode M.2.1 pc = .ok (.invokestatic idx, 3)) (hl : LSH M.1.cls idx M' n)
    (hM : PMH g M' d' kc' ks' As h Q') (hn : As.length = n) (hd : d' + 1 ≤ d) (hsum : (st.map fun v => v.category).sum ≤ 8)
    (kx : ∀ (E : String) (h' : Hp), Q' (.inr E) h' → M.2.2.2.2 = [] ∧ Q (.inr E) h') (kn : ∀ (v : Option Value) (h' : Hp), Q' (.inl v) h' → PW g M d kc ks Q (pc + 3) ls (v.toList ++ st) h') :
    PW g M d (kc + kc') (ks + ks') Q pc ls (As.reverse ++ st) h := by
  obtain ⟨⟨hmh, hml', hini, hcw⟩, hlk, hstt⟩ := hl
  intro p e R s m args below meth c H locs cells slots mc ms arr Z h1 h2 h3 h4 h5 h6 hR hS hL
  obtain ⟨hx, hb, hml, hown, hts, hr, hlocks, hnm, hof, hst, htab⟩ := id Z
  refine pw_runX (M' := M') (vx_runSX (As := As) (rest := st) (hh := M'.2.2.2.2) ⟨hx, hb, hml, hown, hts⟩ hM ⟨⟨rfl, rfl, ?_, ?_, pay_in hts (wsH_good hcw), List.mem_cons_self⟩, hts _ hcw, hts _ hini, ⟨hmh.1, hmh.2.1⟩, fun sig hs => ?_, hts _ hlk, hts _ hstt⟩ ⟨blind_PcM, pre_of hof hR hS⟩ rfl hn hL.1 rfl (lv_room hsum) dc ⟨by omega, by omega⟩) Z h1 h2 h3 h4 h5 h6 hS hL kn kx
  · show d' + 1 ≤ R.frames; omega
  · show 8 + (M'.2.2.1 + 11) + 40 * d' ≤ R.locals; omega
  · have h2 := hmh.2.2
    rw [hs] at h2
    exact (Option.some.inj h2).symm
theorem pw_tryV {idx b ci N n d' kc' ks' : Nat} {M' : MI} {T : u_T} {fs : List Value} {As : List Value} {Q' : QT} (dc : decode M.2.1 pc = .ok (.invokevirtual idx, 3)) (hl : LV M.1.cls idx M' n) (hc : vcl[ci]? = some (M'.1.cls, T, N)) (hf : h b = some (.inr (ci, fs)))
    (hM : PM g M' d' kc' ks' (.ref b :: As) h Q') (hn : As.length = n) (hd : d' + 1 ≤ d) (hsum : (st.map fun v => v.category).sum ≤ 8)
    (kx : ∀ (E : String) (h' : Hp), Q' (.inr E) h' → ∃ hp, CatchOK M pc E hp ∧ ∀ q : Nat, PW g M d kc ks Q hp ls [.ref q] h') (kn : ∀ (v : Option Value) (h' : Hp), Q' (.inl v) h' → PW g M d kc ks Q (pc + 3) ls (v.toList ++ st) h') :
    PW g M d (kc + kc') (ks + ks') Q pc ls (As.reverse ++ .ref b :: st) h := by
  obtain ⟨⟨hmh, hml', hini, hcw⟩, hlk, hins, hsel⟩ := hl
  intro p e R s m args below meth c H locs cells slots mc ms arr Z h1 h2 h3 h4 h5 h6 hR hS hL
  obtain ⟨hx, hb, hml, hown, hts, hr0, hlocks, hnm, hof, hst, htab⟩ := id Z
  have hr : vx_Run p (gl g) e R s m args below meth c H locs cells slots kc' ks' (F0 m pc arr (As.reverse ++ .ref b :: st)) st (Qc g Q' (.ref b :: As).toArray) (Xc g Q') (A0 g) := by
    refine vx_runV (As := As) (rest := st) (C := M'.1.cls) ⟨hx, hb, hml, hown, hts⟩ hM ⟨callB_of n hts (wsM_good hcw) rfl rfl rfl (hts _ hini) (hts _ hlk) hmh ⟨?_, ?_⟩, hts _ hins, hts _ hsel⟩ ⟨blind_PcM, va_recv hof.1 (hR.p1 hf) (q0 := 0) hc rfl, pre_of hof hR hS⟩ rfl hn hL.1 rfl (lv_room hsum) dc ⟨by omega, by omega⟩
    · show d' + 1 ≤ R.frames; omega
    · show 8 + (M'.2.2.1 + 11) + 40 * d' ≤ R.locals; omega
  intro T hT X
  rcases hr T hT X with ⟨v, st₀, t, T', L, h0, X', hLL, e1, e2, ⟨v', h', hv, hq, hR', hF⟩, go⟩ | ⟨q, st₀, t, T', L, E, ce, h0, X', hLL, e1, e2, ⟨h', hq, hR', hF⟩, hce, hcv, hcl, stp⟩
  · cases hv
    obtain ⟨t2, a1, b1⟩ := kn v h' hq p e R s m args below meth c T'.heap (locs ++ L) (cells + kc') (slots + ks') mc ms arr Z h1 h2 (by omega) (by omega) h5 h6 (by rw [e1]; exact hR') (S_trans hS h0 e1 hLL hF) hL T' rfl X'
    exact ⟨t2, go t2 a1, b1⟩
  · obtain ⟨hp, ⟨pre, x, suf, hsplit, hpass, hcov, hx0, hlink, hcast, rfl⟩, hk⟩ := kx E h' hq
    obtain ⟨t2, a1, b1⟩ := vx_catch (own := M.1.cls) (name := E) (E := E) (ls := arr) (rest := st) (pc := pc) hown pre x suf (by rw [htab]; exact hsplit) (fun z hz => (hpass z hz).imp id (fun hz2 => ⟨hz2.1, _, hts _ hz2.2.1, by rw [hz2.2.2]; exact hof.2.2.2.2.2⟩)) hcov hx0 (hts _ hlink) (va_Nw.use rfl (hof.2.1 _ hcast)) (H := T'.heap) (by rw [e1]; exact hce) hcv hcl
      (hk q p e R s m args below meth c T'.heap (locs ++ L) (cells + kc') (slots + ks') mc ms arr Z h1 h2 (by omega) (by omega) h5 h6 (by rw [e1]; exact hR') (S_trans hS h0 e1 hLL hF) hL) T' rfl X'
    exact ⟨t2, stp.trans a1, b1⟩
end
theorem ct_Iae : Cond.castable "java/lang/IllegalArgumentException" "java/lang/IllegalArgumentException" ∈ nws := gmn3 (i := 199) (by decide +kernel) rfl
theorem ct_Nse : Cond.castable "java/util/NoSuchElementException" "java/util/NoSuchElementException" ∈ nws := gmn4 (i := 238) (by decide +kernel) rfl
/-- the law's long[1] -/
abbrev aL (g : GG) (f : Nat → Int64) : va_E := .inl (gc g 3, 1, .inr (.inl f))
/-- what a catching call answers: 0 and the number in out, or which exception -/
def WrQ (g : GG) (o : Nat) (f : Nat → Int64) (ci cn : Int32) (Q' : QT) : QT := fun r h'' =>
  (∃ (x : Int32) (h' : Hp), Q' (.inl (some (.int x))) h' ∧ r = .inl (some (.int 0)) ∧ h'' = va_up h' o (some (aL g (vp_updL f 0 x.toInt64)))) ∨
  (Q' (.inr "java/lang/IllegalArgumentException") h'' ∧ r = .inl (some (.int ci))) ∨ (Q' (.inr "java/util/NoSuchElementException") h'' ∧ r = .inl (some (.int cn)))
theorem q_Law_bus {g : GG} {h : Hp} (hst : (gl g).stackTraces = false) {a o d' kc' ks' : Nat} {fs : List Value} {f : Nat → Int64} (x0 : Int32) {Q' : QT} (ha : h a = some (.inr (10, fs))) (hM : PM g M_Bus_bus d' kc' ks' [.ref a, .int x0] h Q') (hO : ∀ r h', Q' r h' → h' o = some (aL g f)) (hv : ∀ v h', Q' (.inl v) h' → ∃ x : Int32, v = some (.int x)) (hE : ∀ E h', Q' (.inr E) h' → E = "java/lang/IllegalArgumentException") : PMH g M_Law_bus (d' + 1) kc' ks' [.ref a, .int x0, .ref o] h (WrQ g o f 1 0 Q') := by
  refine PMH.of hst (by decide) (fun v hv => ?_) (Nat.le_of_ble_eq_true rfl) ?_
  · simp only [List.mem_cons, List.not_mem_nil, or_false] at hv; rcases hv with rfl | rfl | rfl <;> rfl
  · refine (show PW g M_Law_bus (d' + 1) (0 + kc') (0 + ks') _ 0 _ [] h from ?_) |> fun q => by rw [Nat.zero_add, Nat.zero_add] at q; exact q
    refine pw_aload_n e_Law_bus_0 rfl ?_
    refine pw_iconst (v := nI 0) e_Law_bus_1 (by decide) ?_
    refine pw_aload_n e_Law_bus_2 rfl ?_
    refine pw_iload_n e_Law_bus_3 rfl ?_
    refine pw_tryV (As := [.int x0]) e_Law_bus_4 li_Law_7 rfl ha hM rfl (Nat.le_refl _) (Nat.le_of_ble_eq_true rfl) (fun E h1 hq => ?_) (fun v h1 hq => ?_)
    · have eE := hE E h1 hq
      subst eE
      refine ⟨12, ⟨[], _, _, rfl, (fun z hz => by cases hz), by decide, by decide, cl_Law_13, ct_Iae, rfl⟩, fun q => ?_⟩
      refine pw_astore_n (ls2 := [_, _, _, _]) e_Law_bus_12 (by decide) rfl ?_
      refine pw_iconst (v := nI 1) e_Law_bus_13 (by decide) ?_
      exact pw_iret e_Law_bus_14 rfl rfl (Or.inr (Or.inl ⟨hq, rfl⟩))
    · obtain ⟨x, rfl⟩ := hv v h1 hq
      refine pw_i2l e_Law_bus_7 ?_
      refine pw_last e_Law_bus_8 (hO _ _ hq) (vp_in_nI (by decide) (by decide)) ?_
      refine pw_goto (tgt := 15) e_Law_bus_9 (by decide) ?_
      refine pw_iconst (v := nI 0) e_Law_bus_15 (by decide) ?_
      exact pw_iret e_Law_bus_16 rfl rfl (Or.inl ⟨x, h1, hq, rfl, rfl⟩)
theorem q_Law_count {g : GG} {h : Hp} (hst : (gl g).stackTraces = false) {a o d' kc' ks' : Nat} {fs : List Value} {f : Nat → Int64} (x0 : Int32) {Q' : QT} (ha : h a = some (.inr (10, fs))) (hM : PM g M_Bus_count d' kc' ks' [.ref a, .int x0] h Q') (hO : ∀ r h', Q' r h' → h' o = some (aL g f)) (hv : ∀ v h', Q' (.inl v) h' → ∃ x : Int32, v = some (.int x)) (hE : ∀ E h', Q' (.inr E) h' → E = "java/util/NoSuchElementException") : PMH g M_Law_count (d' + 1) kc' ks' [.ref a, .int x0, .ref o] h (WrQ g o f 0 1 Q') := by
  refine PMH.of hst (by decide) (fun v hv => ?_) (Nat.le_of_ble_eq_true rfl) ?_
  · simp only [List.mem_cons, List.not_mem_nil, or_false] at hv; rcases hv with rfl | rfl | rfl <;> rfl
  · refine (show PW g M_Law_count (d' + 1) (0 + kc') (0 + ks') _ 0 _ [] h from ?_) |> fun q => by rw [Nat.zero_add, Nat.zero_add] at q; exact q
    refine pw_aload_n e_Law_count_0 rfl ?_
    refine pw_iconst (v := nI 0) e_Law_count_1 (by decide) ?_
    refine pw_aload_n e_Law_count_2 rfl ?_
    refine pw_iload_n e_Law_count_3 rfl ?_
    refine pw_tryV (As := [.int x0]) e_Law_count_4 li_Law_15 rfl ha hM rfl (Nat.le_refl _) (Nat.le_of_ble_eq_true rfl) (fun E h1 hq => ?_) (fun v h1 hq => ?_)
    · have eE := hE E h1 hq
      subst eE
      refine ⟨12, ⟨[], _, _, rfl, (fun z hz => by cases hz), by decide, by decide, cl_Law_18, ct_Nse, rfl⟩, fun q => ?_⟩
      refine pw_astore_n (ls2 := [_, _, _, _]) e_Law_count_12 (by decide) rfl ?_
      refine pw_iconst (v := nI 1) e_Law_count_13 (by decide) ?_
      exact pw_iret e_Law_count_14 rfl rfl (Or.inr (Or.inr ⟨hq, rfl⟩))
    · obtain ⟨x, rfl⟩ := hv v h1 hq
      refine pw_i2l e_Law_count_7 ?_
      refine pw_last e_Law_count_8 (hO _ _ hq) (vp_in_nI (by decide) (by decide)) ?_
      refine pw_goto (tgt := 15) e_Law_count_9 (by decide) ?_
      refine pw_iconst (v := nI 0) e_Law_count_15 (by decide) ?_
      exact pw_iret e_Law_count_16 rfl rfl (Or.inl ⟨x, h1, hq, rfl, rfl⟩)
theorem q_Law_block {g : GG} {h : Hp} (hst : (gl g).stackTraces = false) {a o d' kc' ks' : Nat} {fs : List Value} {f : Nat → Int64} (x0 : Int32) (x1 : Int32) {Q' : QT} (ha : h a = some (.inr (10, fs))) (hM : PM g M_Bus_block d' kc' ks' [.ref a, .int x0, .int x1] h Q') (hO : ∀ r h', Q' r h' → h' o = some (aL g f)) (hv : ∀ v h', Q' (.inl v) h' → ∃ x : Int32, v = some (.int x)) (hE : ∀ E h', Q' (.inr E) h' → E = "java/util/NoSuchElementException") : PMH g M_Law_block (d' + 1) kc' ks' [.ref a, .int x0, .int x1, .ref o] h (WrQ g o f 0 1 Q') := by
  refine PMH.of hst (by decide) (fun v hv => ?_) (Nat.le_of_ble_eq_true rfl) ?_
  · simp only [List.mem_cons, List.not_mem_nil, or_false] at hv; rcases hv with rfl | rfl | rfl | rfl <;> rfl
  · refine (show PW g M_Law_block (d' + 1) (0 + kc') (0 + ks') _ 0 _ [] h from ?_) |> fun q => by rw [Nat.zero_add, Nat.zero_add] at q; exact q
    refine pw_aload_n e_Law_block_0 rfl ?_
    refine pw_iconst (v := nI 0) e_Law_block_1 (by decide) ?_
    refine pw_aload_n e_Law_block_2 rfl ?_
    refine pw_iload_n e_Law_block_3 rfl ?_
    refine pw_iload_n e_Law_block_4 rfl ?_
    refine pw_tryV (As := [.int x0, .int x1]) e_Law_block_5 li_Law_20 rfl ha hM rfl (Nat.le_refl _) (Nat.le_of_ble_eq_true rfl) (fun E h1 hq => ?_) (fun v h1 hq => ?_)
    · have eE := hE E h1 hq
      subst eE
      refine ⟨13, ⟨[], _, _, rfl, (fun z hz => by cases hz), by decide, by decide, cl_Law_18, ct_Nse, rfl⟩, fun q => ?_⟩
      refine pw_astore (ls2 := [_, _, _, _, _]) e_Law_block_13 (by decide) rfl ?_
      refine pw_iconst (v := nI 1) e_Law_block_15 (by decide) ?_
      exact pw_iret e_Law_block_16 rfl rfl (Or.inr (Or.inr ⟨hq, rfl⟩))
    · obtain ⟨x, rfl⟩ := hv v h1 hq
      refine pw_i2l e_Law_block_8 ?_
      refine pw_last e_Law_block_9 (hO _ _ hq) (vp_in_nI (by decide) (by decide)) ?_
      refine pw_goto (tgt := 17) e_Law_block_10 (by decide) ?_
      refine pw_iconst (v := nI 0) e_Law_block_17 (by decide) ?_
      exact pw_iret e_Law_block_18 rfl rfl (Or.inl ⟨x, h1, hq, rfl, rfl⟩)
theorem q_Law_link {g : GG} {h : Hp} (hst : (gl g).stackTraces = false) {a o d' kc' ks' : Nat} {fs : List Value} {f : Nat → Int64} (x0 : Int32) (x1 : Int32) {Q' : QT} (ha : h a = some (.inr (10, fs))) (hM : PM g M_Bus_link d' kc' ks' [.ref a, .int x0, .int x1] h Q') (hO : ∀ r h', Q' r h' → h' o = some (aL g f)) (hv : ∀ v h', Q' (.inl v) h' → ∃ x : Int32, v = some (.int x)) (hE : ∀ E h', Q' (.inr E) h' → E = "java/util/NoSuchElementException") : PMH g M_Law_link (d' + 1) kc' ks' [.ref a, .int x0, .int x1, .ref o] h (WrQ g o f 0 1 Q') := by
  refine PMH.of hst (by decide) (fun v hv => ?_) (Nat.le_of_ble_eq_true rfl) ?_
  · simp only [List.mem_cons, List.not_mem_nil, or_false] at hv; rcases hv with rfl | rfl | rfl | rfl <;> rfl
  · refine (show PW g M_Law_link (d' + 1) (0 + kc') (0 + ks') _ 0 _ [] h from ?_) |> fun q => by rw [Nat.zero_add, Nat.zero_add] at q; exact q
    refine pw_aload_n e_Law_link_0 rfl ?_
    refine pw_iconst (v := nI 0) e_Law_link_1 (by decide) ?_
    refine pw_aload_n e_Law_link_2 rfl ?_
    refine pw_iload_n e_Law_link_3 rfl ?_
    refine pw_iload_n e_Law_link_4 rfl ?_
    refine pw_tryV (As := [.int x0, .int x1]) e_Law_link_5 li_Law_24 rfl ha hM rfl (Nat.le_refl _) (Nat.le_of_ble_eq_true rfl) (fun E h1 hq => ?_) (fun v h1 hq => ?_)
    · have eE := hE E h1 hq
      subst eE
      refine ⟨13, ⟨[], _, _, rfl, (fun z hz => by cases hz), by decide, by decide, cl_Law_18, ct_Nse, rfl⟩, fun q => ?_⟩
      refine pw_astore (ls2 := [_, _, _, _, _]) e_Law_link_13 (by decide) rfl ?_
      refine pw_iconst (v := nI 1) e_Law_link_15 (by decide) ?_
      exact pw_iret e_Law_link_16 rfl rfl (Or.inr (Or.inr ⟨hq, rfl⟩))
    · obtain ⟨x, rfl⟩ := hv v h1 hq
      refine pw_i2l e_Law_link_8 ?_
      refine pw_last e_Law_link_9 (hO _ _ hq) (vp_in_nI (by decide) (by decide)) ?_
      refine pw_goto (tgt := 17) e_Law_link_10 (by decide) ?_
      refine pw_iconst (v := nI 0) e_Law_link_17 (by decide) ?_
      exact pw_iret e_Law_link_18 rfl rfl (Or.inl ⟨x, h1, hq, rfl, rfl⟩)
theorem q_Law_plant {g : GG} {h : Hp} (hst : (gl g).stackTraces = false) {a o d' kc' ks' : Nat} {fs : List Value} {f : Nat → Int64} (x0 : Int32) (x1 : Int32) {Q' : QT} (ha : h a = some (.inr (10, fs))) (hM : PM g M_Bus_plant d' kc' ks' [.ref a, .int x0, .int x1] h Q') (hO : ∀ r h', Q' r h' → h' o = some (aL g f)) (hv : ∀ v h', Q' (.inl v) h' → ∃ x : Int32, v = some (.int x)) (hE : ∀ E h', Q' (.inr E) h' → E = "java/util/NoSuchElementException") : PMH g M_Law_plant (d' + 1) kc' ks' [.ref a, .int x0, .int x1, .ref o] h (WrQ g o f 0 1 Q') := by
  refine PMH.of hst (by decide) (fun v hv => ?_) (Nat.le_of_ble_eq_true rfl) ?_
  · simp only [List.mem_cons, List.not_mem_nil, or_false] at hv; rcases hv with rfl | rfl | rfl | rfl <;> rfl
  · refine (show PW g M_Law_plant (d' + 1) (0 + kc') (0 + ks') _ 0 _ [] h from ?_) |> fun q => by rw [Nat.zero_add, Nat.zero_add] at q; exact q
    refine pw_aload_n e_Law_plant_0 rfl ?_
    refine pw_iconst (v := nI 0) e_Law_plant_1 (by decide) ?_
    refine pw_aload_n e_Law_plant_2 rfl ?_
    refine pw_iload_n e_Law_plant_3 rfl ?_
    refine pw_iload_n e_Law_plant_4 rfl ?_
    refine pw_tryV (As := [.int x0, .int x1]) e_Law_plant_5 li_Law_27 rfl ha hM rfl (Nat.le_refl _) (Nat.le_of_ble_eq_true rfl) (fun E h1 hq => ?_) (fun v h1 hq => ?_)
    · have eE := hE E h1 hq
      subst eE
      refine ⟨13, ⟨[], _, _, rfl, (fun z hz => by cases hz), by decide, by decide, cl_Law_18, ct_Nse, rfl⟩, fun q => ?_⟩
      refine pw_astore (ls2 := [_, _, _, _, _]) e_Law_plant_13 (by decide) rfl ?_
      refine pw_iconst (v := nI 1) e_Law_plant_15 (by decide) ?_
      exact pw_iret e_Law_plant_16 rfl rfl (Or.inr (Or.inr ⟨hq, rfl⟩))
    · obtain ⟨x, rfl⟩ := hv v h1 hq
      refine pw_i2l e_Law_plant_8 ?_
      refine pw_last e_Law_plant_9 (hO _ _ hq) (vp_in_nI (by decide) (by decide)) ?_
      refine pw_goto (tgt := 17) e_Law_plant_10 (by decide) ?_
      refine pw_iconst (v := nI 0) e_Law_plant_17 (by decide) ?_
      exact pw_iret e_Law_plant_18 rfl rfl (Or.inl ⟨x, h1, hq, rfl, rfl⟩)
theorem q_Law_then {g : GG} {h : Hp} (hst : (gl g).stackTraces = false) {a o d' kc' ks' : Nat} {fs : List Value} {f : Nat → Int64} (x0 : Int32) (x1 : Int32) (x2 : Int32) {Q' : QT} (ha : h a = some (.inr (10, fs))) (hM : PM g M_Bus_then d' kc' ks' [.ref a, .int x0, .int x1, .int x2] h Q') (hO : ∀ r h', Q' r h' → h' o = some (aL g f)) (hv : ∀ v h', Q' (.inl v) h' → ∃ x : Int32, v = some (.int x)) (hE : ∀ E h', Q' (.inr E) h' → E = "java/lang/IllegalArgumentException" ∨ E = "java/util/NoSuchElementException") : PMH g M_Law_then (d' + 1) kc' ks' [.ref a, .int x0, .int x1, .int x2, .ref o] h (WrQ g o f 2 1 Q') := by
  refine PMH.of hst (by decide) (fun v hv => ?_) (Nat.le_of_ble_eq_true rfl) ?_
  · simp only [List.mem_cons, List.not_mem_nil, or_false] at hv; rcases hv with rfl | rfl | rfl | rfl | rfl <;> rfl
  · refine (show PW g M_Law_then (d' + 1) (0 + kc') (0 + ks') _ 0 _ [] h from ?_) |> fun q => by rw [Nat.zero_add, Nat.zero_add] at q; exact q
    refine pw_aload e_Law_then_0 rfl ?_
    refine pw_iconst (v := nI 0) e_Law_then_2 (by decide) ?_
    refine pw_aload_n e_Law_then_3 rfl ?_
    refine pw_iload_n e_Law_then_4 rfl ?_
    refine pw_iload_n e_Law_then_5 rfl ?_
    refine pw_iload_n e_Law_then_6 rfl ?_
    refine pw_tryV (As := [.int x0, .int x1, .int x2]) e_Law_then_7 li_Law_30 rfl ha hM rfl (Nat.le_refl _) (Nat.le_of_ble_eq_true rfl) (fun E h1 hq => ?_) (fun v h1 hq => ?_)
    · rcases hE E h1 hq with rfl | rfl
      · refine ⟨19, ⟨[_], _, _, rfl, (fun z hz => by
          have hz2 := List.mem_singleton.mp hz
          subst hz2
          exact Or.inr ⟨by decide, cl_Law_18, rfl⟩), by decide, by decide, cl_Law_13, ct_Iae, rfl⟩, fun q => ?_⟩
        refine pw_astore (ls2 := [_, _, _, _, _, _]) e_Law_then_19 (by decide) rfl ?_
        refine pw_iconst (v := nI 2) e_Law_then_21 (by decide) ?_
        exact pw_iret e_Law_then_22 rfl rfl (Or.inr (Or.inl ⟨hq, rfl⟩))
      · refine ⟨15, ⟨[], _, _, rfl, (fun z hz => by cases hz), by decide, by decide, cl_Law_18, ct_Nse, rfl⟩, fun q => ?_⟩
        refine pw_astore (ls2 := [_, _, _, _, _, _]) e_Law_then_15 (by decide) rfl ?_
        refine pw_iconst (v := nI 1) e_Law_then_17 (by decide) ?_
        exact pw_iret e_Law_then_18 rfl rfl (Or.inr (Or.inr ⟨hq, rfl⟩))
    · obtain ⟨x, rfl⟩ := hv v h1 hq
      refine pw_i2l e_Law_then_10 ?_
      refine pw_last e_Law_then_11 (hO _ _ hq) (vp_in_nI (by decide) (by decide)) ?_
      refine pw_goto (tgt := 23) e_Law_then_12 (by decide) ?_
      refine pw_iconst (v := nI 0) e_Law_then_23 (by decide) ?_
      exact pw_iret e_Law_then_24 rfl rfl (Or.inl ⟨x, h1, hq, rfl, rfl⟩)
theorem q_Law_first {g : GG} {h : Hp} (hst : (gl g).stackTraces = false) {a o d' kc' ks' : Nat} {fs : List Value} {f : Nat → Int64} (x0 : Int32) {Q' : QT} (ha : h a = some (.inr (10, fs))) (hM : PM g M_Bus_first d' kc' ks' [.ref a, .int x0] h Q') (hO : ∀ r h', Q' r h' → h' o = some (aL g f)) (hv : ∀ v h', Q' (.inl v) h' → ∃ x : Int32, v = some (.int x)) (hE : ∀ E h', Q' (.inr E) h' → E = "java/util/NoSuchElementException") : PMH g M_Law_first (d' + 1) kc' ks' [.ref a, .int x0, .ref o] h (WrQ g o f 0 1 Q') := by
  refine PMH.of hst (by decide) (fun v hv => ?_) (Nat.le_of_ble_eq_true rfl) ?_
  · simp only [List.mem_cons, List.not_mem_nil, or_false] at hv; rcases hv with rfl | rfl | rfl <;> rfl
  · refine (show PW g M_Law_first (d' + 1) (0 + kc') (0 + ks') _ 0 _ [] h from ?_) |> fun q => by rw [Nat.zero_add, Nat.zero_add] at q; exact q
    refine pw_aload_n e_Law_first_0 rfl ?_
    refine pw_iconst (v := nI 0) e_Law_first_1 (by decide) ?_
    refine pw_aload_n e_Law_first_2 rfl ?_
    refine pw_iload_n e_Law_first_3 rfl ?_
    refine pw_tryV (As := [.int x0]) e_Law_first_4 li_Law_34 rfl ha hM rfl (Nat.le_refl _) (Nat.le_of_ble_eq_true rfl) (fun E h1 hq => ?_) (fun v h1 hq => ?_)
    · have eE := hE E h1 hq
      subst eE
      refine ⟨12, ⟨[], _, _, rfl, (fun z hz => by cases hz), by decide, by decide, cl_Law_18, ct_Nse, rfl⟩, fun q => ?_⟩
      refine pw_astore_n (ls2 := [_, _, _, _]) e_Law_first_12 (by decide) rfl ?_
      refine pw_iconst (v := nI 1) e_Law_first_13 (by decide) ?_
      exact pw_iret e_Law_first_14 rfl rfl (Or.inr (Or.inr ⟨hq, rfl⟩))
    · obtain ⟨x, rfl⟩ := hv v h1 hq
      refine pw_i2l e_Law_first_7 ?_
      refine pw_last e_Law_first_8 (hO _ _ hq) (vp_in_nI (by decide) (by decide)) ?_
      refine pw_goto (tgt := 15) e_Law_first_9 (by decide) ?_
      refine pw_iconst (v := nI 0) e_Law_first_15 (by decide) ?_
      exact pw_iret e_Law_first_16 rfl rfl (Or.inl ⟨x, h1, hq, rfl, rfl⟩)
theorem q_Law_jump {g : GG} {h : Hp} (hst : (gl g).stackTraces = false) {a o d' kc' ks' : Nat} {fs : List Value} {f : Nat → Int64} (x0 : Int32) (x1 : Int32) {Q' : QT} (ha : h a = some (.inr (10, fs))) (hM : PM g M_Bus_jump d' kc' ks' [.ref a, .int x0, .int x1] h Q') (hO : ∀ r h', Q' r h' → h' o = some (aL g f)) (hv : ∀ v h', Q' (.inl v) h' → ∃ x : Int32, v = some (.int x)) (hE : ∀ E h', Q' (.inr E) h' → E = "java/lang/IllegalArgumentException" ∨ E = "java/util/NoSuchElementException") : PMH g M_Law_jump (d' + 1) kc' ks' [.ref a, .int x0, .int x1, .ref o] h (WrQ g o f 2 1 Q') := by
  refine PMH.of hst (by decide) (fun v hv => ?_) (Nat.le_of_ble_eq_true rfl) ?_
  · simp only [List.mem_cons, List.not_mem_nil, or_false] at hv; rcases hv with rfl | rfl | rfl | rfl <;> rfl
  · refine (show PW g M_Law_jump (d' + 1) (0 + kc') (0 + ks') _ 0 _ [] h from ?_) |> fun q => by rw [Nat.zero_add, Nat.zero_add] at q; exact q
    refine pw_aload_n e_Law_jump_0 rfl ?_
    refine pw_iconst (v := nI 0) e_Law_jump_1 (by decide) ?_
    refine pw_aload_n e_Law_jump_2 rfl ?_
    refine pw_iload_n e_Law_jump_3 rfl ?_
    refine pw_iload_n e_Law_jump_4 rfl ?_
    refine pw_tryV (As := [.int x0, .int x1]) e_Law_jump_5 li_Law_37 rfl ha hM rfl (Nat.le_refl _) (Nat.le_of_ble_eq_true rfl) (fun E h1 hq => ?_) (fun v h1 hq => ?_)
    · rcases hE E h1 hq with rfl | rfl
      · refine ⟨17, ⟨[_], _, _, rfl, (fun z hz => by
          have hz2 := List.mem_singleton.mp hz
          subst hz2
          exact Or.inr ⟨by decide, cl_Law_18, rfl⟩), by decide, by decide, cl_Law_13, ct_Iae, rfl⟩, fun q => ?_⟩
        refine pw_astore (ls2 := [_, _, _, _, _]) e_Law_jump_17 (by decide) rfl ?_
        refine pw_iconst (v := nI 2) e_Law_jump_19 (by decide) ?_
        exact pw_iret e_Law_jump_20 rfl rfl (Or.inr (Or.inl ⟨hq, rfl⟩))
      · refine ⟨13, ⟨[], _, _, rfl, (fun z hz => by cases hz), by decide, by decide, cl_Law_18, ct_Nse, rfl⟩, fun q => ?_⟩
        refine pw_astore (ls2 := [_, _, _, _, _]) e_Law_jump_13 (by decide) rfl ?_
        refine pw_iconst (v := nI 1) e_Law_jump_15 (by decide) ?_
        exact pw_iret e_Law_jump_16 rfl rfl (Or.inr (Or.inr ⟨hq, rfl⟩))
    · obtain ⟨x, rfl⟩ := hv v h1 hq
      refine pw_i2l e_Law_jump_8 ?_
      refine pw_last e_Law_jump_9 (hO _ _ hq) (vp_in_nI (by decide) (by decide)) ?_
      refine pw_goto (tgt := 21) e_Law_jump_10 (by decide) ?_
      refine pw_iconst (v := nI 0) e_Law_jump_21 (by decide) ?_
      exact pw_iret e_Law_jump_22 rfl rfl (Or.inl ⟨x, h1, hq, rfl, rfl⟩)
theorem q_Law_lost {g : GG} {h : Hp} (hst : (gl g).stackTraces = false) {a o d' kc' ks' : Nat} {fs : List Value} {f : Nat → Int64} (x0 : Int32) (x1 : Int32) {Q' : QT} (ha : h a = some (.inr (10, fs))) (hM : PM g M_Bus_lost d' kc' ks' [.ref a, .int x0, .int x1] h Q') (hO : ∀ r h', Q' r h' → h' o = some (aL g f)) (hv : ∀ v h', Q' (.inl v) h' → ∃ x : Int32, v = some (.int x)) (hE : ∀ E h', Q' (.inr E) h' → E = "java/lang/IllegalArgumentException" ∨ E = "java/util/NoSuchElementException") : PMH g M_Law_lost (d' + 1) kc' ks' [.ref a, .int x0, .int x1, .ref o] h (WrQ g o f 2 1 Q') := by
  refine PMH.of hst (by decide) (fun v hv => ?_) (Nat.le_of_ble_eq_true rfl) ?_
  · simp only [List.mem_cons, List.not_mem_nil, or_false] at hv; rcases hv with rfl | rfl | rfl | rfl <;> rfl
  · refine (show PW g M_Law_lost (d' + 1) (0 + kc') (0 + ks') _ 0 _ [] h from ?_) |> fun q => by rw [Nat.zero_add, Nat.zero_add] at q; exact q
    refine pw_aload_n e_Law_lost_0 rfl ?_
    refine pw_iconst (v := nI 0) e_Law_lost_1 (by decide) ?_
    refine pw_aload_n e_Law_lost_2 rfl ?_
    refine pw_iload_n e_Law_lost_3 rfl ?_
    refine pw_iload_n e_Law_lost_4 rfl ?_
    refine pw_tryV (As := [.int x0, .int x1]) e_Law_lost_5 li_Law_40 rfl ha hM rfl (Nat.le_refl _) (Nat.le_of_ble_eq_true rfl) (fun E h1 hq => ?_) (fun v h1 hq => ?_)
    · rcases hE E h1 hq with rfl | rfl
      · refine ⟨17, ⟨[_], _, _, rfl, (fun z hz => by
          have hz2 := List.mem_singleton.mp hz
          subst hz2
          exact Or.inr ⟨by decide, cl_Law_18, rfl⟩), by decide, by decide, cl_Law_13, ct_Iae, rfl⟩, fun q => ?_⟩
        refine pw_astore (ls2 := [_, _, _, _, _]) e_Law_lost_17 (by decide) rfl ?_
        refine pw_iconst (v := nI 2) e_Law_lost_19 (by decide) ?_
        exact pw_iret e_Law_lost_20 rfl rfl (Or.inr (Or.inl ⟨hq, rfl⟩))
      · refine ⟨13, ⟨[], _, _, rfl, (fun z hz => by cases hz), by decide, by decide, cl_Law_18, ct_Nse, rfl⟩, fun q => ?_⟩
        refine pw_astore (ls2 := [_, _, _, _, _]) e_Law_lost_13 (by decide) rfl ?_
        refine pw_iconst (v := nI 1) e_Law_lost_15 (by decide) ?_
        exact pw_iret e_Law_lost_16 rfl rfl (Or.inr (Or.inr ⟨hq, rfl⟩))
    · obtain ⟨x, rfl⟩ := hv v h1 hq
      refine pw_i2l e_Law_lost_8 ?_
      refine pw_last e_Law_lost_9 (hO _ _ hq) (vp_in_nI (by decide) (by decide)) ?_
      refine pw_goto (tgt := 21) e_Law_lost_10 (by decide) ?_
      refine pw_iconst (v := nI 0) e_Law_lost_21 (by decide) ?_
      exact pw_iret e_Law_lost_22 rfl rfl (Or.inl ⟨x, h1, hq, rfl, rfl⟩)
theorem q_Law_toTune {g : GG} {h : Hp} (hst : (gl g).stackTraces = false) {a o d' kc' ks' : Nat} {fs : List Value} {f : Nat → Int64} (x0 : Int32) (x1 : Int32) (x2 : Int32) {Q' : QT} (ha : h a = some (.inr (10, fs))) (hM : PM g M_Bus_toTune d' kc' ks' [.ref a, .int x0, .int x1, .int x2] h Q') (hO : ∀ r h', Q' r h' → h' o = some (aL g f)) (hv : ∀ v h', Q' (.inl v) h' → ∃ x : Int32, v = some (.int x)) (hE : ∀ E h', Q' (.inr E) h' → E = "java/lang/IllegalArgumentException" ∨ E = "java/util/NoSuchElementException") : PMH g M_Law_toTune (d' + 1) kc' ks' [.ref a, .int x0, .int x1, .int x2, .ref o] h (WrQ g o f 2 1 Q') := by
  refine PMH.of hst (by decide) (fun v hv => ?_) (Nat.le_of_ble_eq_true rfl) ?_
  · simp only [List.mem_cons, List.not_mem_nil, or_false] at hv; rcases hv with rfl | rfl | rfl | rfl | rfl <;> rfl
  · refine (show PW g M_Law_toTune (d' + 1) (0 + kc') (0 + ks') _ 0 _ [] h from ?_) |> fun q => by rw [Nat.zero_add, Nat.zero_add] at q; exact q
    refine pw_aload e_Law_toTune_0 rfl ?_
    refine pw_iconst (v := nI 0) e_Law_toTune_2 (by decide) ?_
    refine pw_aload_n e_Law_toTune_3 rfl ?_
    refine pw_iload_n e_Law_toTune_4 rfl ?_
    refine pw_iload_n e_Law_toTune_5 rfl ?_
    refine pw_iload_n e_Law_toTune_6 rfl ?_
    refine pw_tryV (As := [.int x0, .int x1, .int x2]) e_Law_toTune_7 li_Law_43 rfl ha hM rfl (Nat.le_refl _) (Nat.le_of_ble_eq_true rfl) (fun E h1 hq => ?_) (fun v h1 hq => ?_)
    · rcases hE E h1 hq with rfl | rfl
      · refine ⟨19, ⟨[_], _, _, rfl, (fun z hz => by
          have hz2 := List.mem_singleton.mp hz
          subst hz2
          exact Or.inr ⟨by decide, cl_Law_18, rfl⟩), by decide, by decide, cl_Law_13, ct_Iae, rfl⟩, fun q => ?_⟩
        refine pw_astore (ls2 := [_, _, _, _, _, _]) e_Law_toTune_19 (by decide) rfl ?_
        refine pw_iconst (v := nI 2) e_Law_toTune_21 (by decide) ?_
        exact pw_iret e_Law_toTune_22 rfl rfl (Or.inr (Or.inl ⟨hq, rfl⟩))
      · refine ⟨15, ⟨[], _, _, rfl, (fun z hz => by cases hz), by decide, by decide, cl_Law_18, ct_Nse, rfl⟩, fun q => ?_⟩
        refine pw_astore (ls2 := [_, _, _, _, _, _]) e_Law_toTune_15 (by decide) rfl ?_
        refine pw_iconst (v := nI 1) e_Law_toTune_17 (by decide) ?_
        exact pw_iret e_Law_toTune_18 rfl rfl (Or.inr (Or.inr ⟨hq, rfl⟩))
    · obtain ⟨x, rfl⟩ := hv v h1 hq
      refine pw_i2l e_Law_toTune_10 ?_
      refine pw_last e_Law_toTune_11 (hO _ _ hq) (vp_in_nI (by decide) (by decide)) ?_
      refine pw_goto (tgt := 23) e_Law_toTune_12 (by decide) ?_
      refine pw_iconst (v := nI 0) e_Law_toTune_23 (by decide) ?_
      exact pw_iret e_Law_toTune_24 rfl rfl (Or.inl ⟨x, h1, hq, rfl, rfl⟩)
theorem q_Law_slack {g : GG} {h : Hp} (hst : (gl g).stackTraces = false) {a o d' kc' ks' : Nat} {fs : List Value} {f : Nat → Int64} (x0 : Int32) {Q' : QT} (ha : h a = some (.inr (10, fs))) (hM : PM g M_Bus_slack d' kc' ks' [.ref a, .int x0] h Q') (hO : ∀ r h', Q' r h' → h' o = some (aL g f)) (hv : ∀ v h', Q' (.inl v) h' → ∃ x : Int32, v = some (.int x)) (hE : ∀ E h', Q' (.inr E) h' → E = "java/util/NoSuchElementException") : PMH g M_Law_slack (d' + 1) kc' ks' [.ref a, .int x0, .ref o] h (WrQ g o f 0 1 Q') := by
  refine PMH.of hst (by decide) (fun v hv => ?_) (Nat.le_of_ble_eq_true rfl) ?_
  · simp only [List.mem_cons, List.not_mem_nil, or_false] at hv; rcases hv with rfl | rfl | rfl <;> rfl
  · refine (show PW g M_Law_slack (d' + 1) (0 + kc') (0 + ks') _ 0 _ [] h from ?_) |> fun q => by rw [Nat.zero_add, Nat.zero_add] at q; exact q
    refine pw_aload_n e_Law_slack_0 rfl ?_
    refine pw_iconst (v := nI 0) e_Law_slack_1 (by decide) ?_
    refine pw_aload_n e_Law_slack_2 rfl ?_
    refine pw_iload_n e_Law_slack_3 rfl ?_
    refine pw_tryV (As := [.int x0]) e_Law_slack_4 li_Law_46 rfl ha hM rfl (Nat.le_refl _) (Nat.le_of_ble_eq_true rfl) (fun E h1 hq => ?_) (fun v h1 hq => ?_)
    · have eE := hE E h1 hq
      subst eE
      refine ⟨12, ⟨[], _, _, rfl, (fun z hz => by cases hz), by decide, by decide, cl_Law_18, ct_Nse, rfl⟩, fun q => ?_⟩
      refine pw_astore_n (ls2 := [_, _, _, _]) e_Law_slack_12 (by decide) rfl ?_
      refine pw_iconst (v := nI 1) e_Law_slack_13 (by decide) ?_
      exact pw_iret e_Law_slack_14 rfl rfl (Or.inr (Or.inr ⟨hq, rfl⟩))
    · obtain ⟨x, rfl⟩ := hv v h1 hq
      refine pw_i2l e_Law_slack_7 ?_
      refine pw_last e_Law_slack_8 (hO _ _ hq) (vp_in_nI (by decide) (by decide)) ?_
      refine pw_goto (tgt := 15) e_Law_slack_9 (by decide) ?_
      refine pw_iconst (v := nI 0) e_Law_slack_15 (by decide) ?_
      exact pw_iret e_Law_slack_16 rfl rfl (Or.inl ⟨x, h1, hq, rfl, rfl⟩)
theorem q_Law_look {g : GG} {h : Hp} (hst : (gl g).stackTraces = false) {a o d' kc' ks' : Nat} {fs : List Value} {f : Nat → Int64} (x0 : Int32) {Q' : QT} (ha : h a = some (.inr (10, fs))) (hM : PM g M_Bus_look d' kc' ks' [.ref a, .int x0] h Q') (hO : ∀ r h', Q' r h' → h' o = some (aL g f)) (hv : ∀ v h', Q' (.inl v) h' → ∃ x : Int32, v = some (.int x)) (hE : ∀ E h', Q' (.inr E) h' → E = "java/util/NoSuchElementException") : PMH g M_Law_look (d' + 1) kc' ks' [.ref a, .int x0, .ref o] h (WrQ g o f 0 1 Q') := by
  refine PMH.of hst (by decide) (fun v hv => ?_) (Nat.le_of_ble_eq_true rfl) ?_
  · simp only [List.mem_cons, List.not_mem_nil, or_false] at hv; rcases hv with rfl | rfl | rfl <;> rfl
  · refine (show PW g M_Law_look (d' + 1) (0 + kc') (0 + ks') _ 0 _ [] h from ?_) |> fun q => by rw [Nat.zero_add, Nat.zero_add] at q; exact q
    refine pw_aload_n e_Law_look_0 rfl ?_
    refine pw_iconst (v := nI 0) e_Law_look_1 (by decide) ?_
    refine pw_aload_n e_Law_look_2 rfl ?_
    refine pw_iload_n e_Law_look_3 rfl ?_
    refine pw_tryV (As := [.int x0]) e_Law_look_4 li_Law_49 rfl ha hM rfl (Nat.le_refl _) (Nat.le_of_ble_eq_true rfl) (fun E h1 hq => ?_) (fun v h1 hq => ?_)
    · have eE := hE E h1 hq
      subst eE
      refine ⟨12, ⟨[], _, _, rfl, (fun z hz => by cases hz), by decide, by decide, cl_Law_18, ct_Nse, rfl⟩, fun q => ?_⟩
      refine pw_astore_n (ls2 := [_, _, _, _]) e_Law_look_12 (by decide) rfl ?_
      refine pw_iconst (v := nI 1) e_Law_look_13 (by decide) ?_
      exact pw_iret e_Law_look_14 rfl rfl (Or.inr (Or.inr ⟨hq, rfl⟩))
    · obtain ⟨x, rfl⟩ := hv v h1 hq
      refine pw_i2l e_Law_look_7 ?_
      refine pw_last e_Law_look_8 (hO _ _ hq) (vp_in_nI (by decide) (by decide)) ?_
      refine pw_goto (tgt := 15) e_Law_look_9 (by decide) ?_
      refine pw_iconst (v := nI 0) e_Law_look_15 (by decide) ?_
      exact pw_iret e_Law_look_16 rfl rfl (Or.inl ⟨x, h1, hq, rfl, rfl⟩)
theorem q_Law_years {g : GG} {h : Hp} (hst : (gl g).stackTraces = false) {a o d' kc' ks' : Nat} {fs : List Value} {f : Nat → Int64} (x0 : Int32) (x1 : Int32) (x2 : Int32) {Q' : QT} (ha : h a = some (.inr (10, fs))) (hM : PM g M_Bus_years d' kc' ks' [.ref a, .int x0, .int x1, .int x2] h Q') (hO : ∀ r h', Q' r h' → h' o = some (aL g f)) (hv : ∀ v h', Q' (.inl v) h' → ∃ x : Int32, v = some (.int x)) (hE : ∀ E h', Q' (.inr E) h' → E = "java/lang/IllegalArgumentException" ∨ E = "java/util/NoSuchElementException") : PMH g M_Law_years (d' + 1) kc' ks' [.ref a, .int x0, .int x1, .int x2, .ref o] h (WrQ g o f 2 1 Q') := by
  refine PMH.of hst (by decide) (fun v hv => ?_) (Nat.le_of_ble_eq_true rfl) ?_
  · simp only [List.mem_cons, List.not_mem_nil, or_false] at hv; rcases hv with rfl | rfl | rfl | rfl | rfl <;> rfl
  · refine (show PW g M_Law_years (d' + 1) (0 + kc') (0 + ks') _ 0 _ [] h from ?_) |> fun q => by rw [Nat.zero_add, Nat.zero_add] at q; exact q
    refine pw_aload e_Law_years_0 rfl ?_
    refine pw_iconst (v := nI 0) e_Law_years_2 (by decide) ?_
    refine pw_aload_n e_Law_years_3 rfl ?_
    refine pw_iload_n e_Law_years_4 rfl ?_
    refine pw_iload_n e_Law_years_5 rfl ?_
    refine pw_iload_n e_Law_years_6 rfl ?_
    refine pw_tryV (As := [.int x0, .int x1, .int x2]) e_Law_years_7 li_Law_52 rfl ha hM rfl (Nat.le_refl _) (Nat.le_of_ble_eq_true rfl) (fun E h1 hq => ?_) (fun v h1 hq => ?_)
    · rcases hE E h1 hq with rfl | rfl
      · refine ⟨19, ⟨[_], _, _, rfl, (fun z hz => by
          have hz2 := List.mem_singleton.mp hz
          subst hz2
          exact Or.inr ⟨by decide, cl_Law_18, rfl⟩), by decide, by decide, cl_Law_13, ct_Iae, rfl⟩, fun q => ?_⟩
        refine pw_astore (ls2 := [_, _, _, _, _, _]) e_Law_years_19 (by decide) rfl ?_
        refine pw_iconst (v := nI 2) e_Law_years_21 (by decide) ?_
        exact pw_iret e_Law_years_22 rfl rfl (Or.inr (Or.inl ⟨hq, rfl⟩))
      · refine ⟨15, ⟨[], _, _, rfl, (fun z hz => by cases hz), by decide, by decide, cl_Law_18, ct_Nse, rfl⟩, fun q => ?_⟩
        refine pw_astore (ls2 := [_, _, _, _, _, _]) e_Law_years_15 (by decide) rfl ?_
        refine pw_iconst (v := nI 1) e_Law_years_17 (by decide) ?_
        exact pw_iret e_Law_years_18 rfl rfl (Or.inr (Or.inr ⟨hq, rfl⟩))
    · obtain ⟨x, rfl⟩ := hv v h1 hq
      refine pw_i2l e_Law_years_10 ?_
      refine pw_last e_Law_years_11 (hO _ _ hq) (vp_in_nI (by decide) (by decide)) ?_
      refine pw_goto (tgt := 23) e_Law_years_12 (by decide) ?_
      refine pw_iconst (v := nI 0) e_Law_years_23 (by decide) ?_
      exact pw_iret e_Law_years_24 rfl rfl (Or.inl ⟨x, h1, hq, rfl, rfl⟩)
