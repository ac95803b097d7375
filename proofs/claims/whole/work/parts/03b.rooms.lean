/-! ===== the room of each method, and what its name says ===== -/
abbrev rm_J0_length_8abf5 : Room := { frames := 1, cells := 0, slots := 0, locals := 20 }
theorem hdV_J0_length_8abf5 : yJ0_length_8abf5.cls = RJ0 ∧ yJ0_length_8abf5.cls ≠ "java/lang/invoke/MethodHandle" ∧ yJ0_length_8abf5.cls ≠ "java/lang/invoke/VarHandle" ∧ (parseMethodDescriptor yJ0_length_8abf5.desc).map (fun d => d.parameters.length) = some 0 := by decide +kernel
theorem hdN_J0_length_8abf5 : yJ0_length_8abf5.cls ≠ "java/lang/invoke/MethodHandle" ∧ yJ0_length_8abf5.cls ≠ "java/lang/invoke/VarHandle" ∧ (parseMethodDescriptor yJ0_length_8abf5.desc).map (fun d => d.parameters.length) = some 0 := hdV_J0_length_8abf5.2
abbrev rm_J0_charAt_5068e : Room := { frames := 3, cells := 0, slots := 0, locals := 80 }
theorem hdV_J0_charAt_5068e : yJ0_charAt_5068e.cls = RJ0 ∧ yJ0_charAt_5068e.cls ≠ "java/lang/invoke/MethodHandle" ∧ yJ0_charAt_5068e.cls ≠ "java/lang/invoke/VarHandle" ∧ (parseMethodDescriptor yJ0_charAt_5068e.desc).map (fun d => d.parameters.length) = some 1 := by decide +kernel
theorem hdN_J0_charAt_5068e : yJ0_charAt_5068e.cls ≠ "java/lang/invoke/MethodHandle" ∧ yJ0_charAt_5068e.cls ≠ "java/lang/invoke/VarHandle" ∧ (parseMethodDescriptor yJ0_charAt_5068e.desc).map (fun d => d.parameters.length) = some 1 := hdV_J0_charAt_5068e.2
abbrev rm_X5_within : Room := { frames := 0, cells := 0, slots := 0, locals := 0 }
theorem hdS_X5_within : yX5_within.cls ≠ "java/lang/invoke/MethodHandle" ∧ yX5_within.cls ≠ "java/lang/invoke/VarHandle" ∧ (parseMethodDescriptor yX5_within.desc).map (fun d => d.parameters.length) = some 3 := by decide +kernel
abbrev rm_X2_append : Room := { frames := 0, cells := 0, slots := 0, locals := 0 }
theorem hdV_X2_append : yX2_append.cls = RX2 ∧ yX2_append.cls ≠ "java/lang/invoke/MethodHandle" ∧ yX2_append.cls ≠ "java/lang/invoke/VarHandle" ∧ (parseMethodDescriptor yX2_append.desc).map (fun d => d.parameters.length) = some 1 := by decide +kernel
theorem hdN_X2_append : yX2_append.cls ≠ "java/lang/invoke/MethodHandle" ∧ yX2_append.cls ≠ "java/lang/invoke/VarHandle" ∧ (parseMethodDescriptor yX2_append.desc).map (fun d => d.parameters.length) = some 1 := hdV_X2_append.2
abbrev rm_X5_write : Room := { frames := 1, cells := 0, slots := 0, locals := 22 }
theorem hdV_X5_write : yX5_write.cls = RX5 ∧ yX5_write.cls ≠ "java/lang/invoke/MethodHandle" ∧ yX5_write.cls ≠ "java/lang/invoke/VarHandle" ∧ (parseMethodDescriptor yX5_write.desc).map (fun d => d.parameters.length) = some 2 := by decide +kernel
theorem hdN_X5_write : yX5_write.cls ≠ "java/lang/invoke/MethodHandle" ∧ yX5_write.cls ≠ "java/lang/invoke/VarHandle" ∧ (parseMethodDescriptor yX5_write.desc).map (fun d => d.parameters.length) = some 2 := hdV_X5_write.2
abbrev rm_X2_empty : Room := { frames := 0, cells := 0, slots := 0, locals := 0 }
theorem hdV_X2_empty : yX2_empty.cls = RX2 ∧ yX2_empty.cls ≠ "java/lang/invoke/MethodHandle" ∧ yX2_empty.cls ≠ "java/lang/invoke/VarHandle" ∧ (parseMethodDescriptor yX2_empty.desc).map (fun d => d.parameters.length) = some 0 := by decide +kernel
theorem hdN_X2_empty : yX2_empty.cls ≠ "java/lang/invoke/MethodHandle" ∧ yX2_empty.cls ≠ "java/lang/invoke/VarHandle" ∧ (parseMethodDescriptor yX2_empty.desc).map (fun d => d.parameters.length) = some 0 := hdV_X2_empty.2
abbrev rm_X5_erase : Room := { frames := 1, cells := 0, slots := 0, locals := 21 }
theorem hdV_X5_erase : yX5_erase.cls = RX5 ∧ yX5_erase.cls ≠ "java/lang/invoke/MethodHandle" ∧ yX5_erase.cls ≠ "java/lang/invoke/VarHandle" ∧ (parseMethodDescriptor yX5_erase.desc).map (fun d => d.parameters.length) = some 0 := by decide +kernel
theorem hdN_X5_erase : yX5_erase.cls ≠ "java/lang/invoke/MethodHandle" ∧ yX5_erase.cls ≠ "java/lang/invoke/VarHandle" ∧ (parseMethodDescriptor yX5_erase.desc).map (fun d => d.parameters.length) = some 0 := hdV_X5_erase.2
abbrev rm_X2_sortOf : Room := { frames := 1, cells := 0, slots := 0, locals := 22 }
theorem hdS_X2_sortOf : yX2_sortOf.cls ≠ "java/lang/invoke/MethodHandle" ∧ yX2_sortOf.cls ≠ "java/lang/invoke/VarHandle" ∧ (parseMethodDescriptor yX2_sortOf.desc).map (fun d => d.parameters.length) = some 1 := by decide +kernel
abbrev rm_X2_readToken : Room := { frames := 2, cells := 0, slots := 0, locals := 42 }
theorem hdV_X2_readToken : yX2_readToken.cls = RX2 ∧ yX2_readToken.cls ≠ "java/lang/invoke/MethodHandle" ∧ yX2_readToken.cls ≠ "java/lang/invoke/VarHandle" ∧ (parseMethodDescriptor yX2_readToken.desc).map (fun d => d.parameters.length) = some 0 := by decide +kernel
theorem hdN_X2_readToken : yX2_readToken.cls ≠ "java/lang/invoke/MethodHandle" ∧ yX2_readToken.cls ≠ "java/lang/invoke/VarHandle" ∧ (parseMethodDescriptor yX2_readToken.desc).map (fun d => d.parameters.length) = some 0 := hdV_X2_readToken.2
abbrev rm_X2_spellingOf : Room := { frames := 0, cells := 0, slots := 0, locals := 0 }
theorem hdS_X2_spellingOf : yX2_spellingOf.cls ≠ "java/lang/invoke/MethodHandle" ∧ yX2_spellingOf.cls ≠ "java/lang/invoke/VarHandle" ∧ (parseMethodDescriptor yX2_spellingOf.desc).map (fun d => d.parameters.length) = some 1 := by decide +kernel
abbrev rm_X2_spells : Room := { frames := 4, cells := 0, slots := 0, locals := 101 }
theorem hdV_X2_spells : yX2_spells.cls = RX2 ∧ yX2_spells.cls ≠ "java/lang/invoke/MethodHandle" ∧ yX2_spells.cls ≠ "java/lang/invoke/VarHandle" ∧ (parseMethodDescriptor yX2_spells.desc).map (fun d => d.parameters.length) = some 1 := by decide +kernel
theorem hdN_X2_spells : yX2_spells.cls ≠ "java/lang/invoke/MethodHandle" ∧ yX2_spells.cls ≠ "java/lang/invoke/VarHandle" ∧ (parseMethodDescriptor yX2_spells.desc).map (fun d => d.parameters.length) = some 1 := hdV_X2_spells.2
abbrev rm_X2_wordRead : Room := { frames := 5, cells := 0, slots := 0, locals := 123 }
theorem hdV_X2_wordRead : yX2_wordRead.cls = RX2 ∧ yX2_wordRead.cls ≠ "java/lang/invoke/MethodHandle" ∧ yX2_wordRead.cls ≠ "java/lang/invoke/VarHandle" ∧ (parseMethodDescriptor yX2_wordRead.desc).map (fun d => d.parameters.length) = some 0 := by decide +kernel
theorem hdN_X2_wordRead : yX2_wordRead.cls ≠ "java/lang/invoke/MethodHandle" ∧ yX2_wordRead.cls ≠ "java/lang/invoke/VarHandle" ∧ (parseMethodDescriptor yX2_wordRead.desc).map (fun d => d.parameters.length) = some 0 := hdV_X2_wordRead.2
abbrev rm_X2_formOf : Room := { frames := 0, cells := 0, slots := 0, locals := 0 }
theorem hdS_X2_formOf : yX2_formOf.cls ≠ "java/lang/invoke/MethodHandle" ∧ yX2_formOf.cls ≠ "java/lang/invoke/VarHandle" ∧ (parseMethodDescriptor yX2_formOf.desc).map (fun d => d.parameters.length) = some 1 := by decide +kernel
abbrev rm_X2_numberRead : Room := { frames := 2, cells := 0, slots := 0, locals := 42 }
theorem hdV_X2_numberRead : yX2_numberRead.cls = RX2 ∧ yX2_numberRead.cls ≠ "java/lang/invoke/MethodHandle" ∧ yX2_numberRead.cls ≠ "java/lang/invoke/VarHandle" ∧ (parseMethodDescriptor yX2_numberRead.desc).map (fun d => d.parameters.length) = some 0 := by decide +kernel
theorem hdN_X2_numberRead : yX2_numberRead.cls ≠ "java/lang/invoke/MethodHandle" ∧ yX2_numberRead.cls ≠ "java/lang/invoke/VarHandle" ∧ (parseMethodDescriptor yX2_numberRead.desc).map (fun d => d.parameters.length) = some 0 := hdV_X2_numberRead.2
abbrev rm_X2_leastOf : Room := { frames := 0, cells := 0, slots := 0, locals := 0 }
theorem hdS_X2_leastOf : yX2_leastOf.cls ≠ "java/lang/invoke/MethodHandle" ∧ yX2_leastOf.cls ≠ "java/lang/invoke/VarHandle" ∧ (parseMethodDescriptor yX2_leastOf.desc).map (fun d => d.parameters.length) = some 1 := by decide +kernel
abbrev rm_X2_mostOf : Room := { frames := 0, cells := 0, slots := 0, locals := 0 }
theorem hdV_X2_mostOf : yX2_mostOf.cls = RX2 ∧ yX2_mostOf.cls ≠ "java/lang/invoke/MethodHandle" ∧ yX2_mostOf.cls ≠ "java/lang/invoke/VarHandle" ∧ (parseMethodDescriptor yX2_mostOf.desc).map (fun d => d.parameters.length) = some 1 := by decide +kernel
theorem hdN_X2_mostOf : yX2_mostOf.cls ≠ "java/lang/invoke/MethodHandle" ∧ yX2_mostOf.cls ≠ "java/lang/invoke/VarHandle" ∧ (parseMethodDescriptor yX2_mostOf.desc).map (fun d => d.parameters.length) = some 1 := hdV_X2_mostOf.2
abbrev rm_X2_number : Room := { frames := 0, cells := 0, slots := 0, locals := 0 }
theorem hdV_X2_number : yX2_number.cls = RX2 ∧ yX2_number.cls ≠ "java/lang/invoke/MethodHandle" ∧ yX2_number.cls ≠ "java/lang/invoke/VarHandle" ∧ (parseMethodDescriptor yX2_number.desc).map (fun d => d.parameters.length) = some 2 := by decide +kernel
theorem hdN_X2_number : yX2_number.cls ≠ "java/lang/invoke/MethodHandle" ∧ yX2_number.cls ≠ "java/lang/invoke/VarHandle" ∧ (parseMethodDescriptor yX2_number.desc).map (fun d => d.parameters.length) = some 2 := hdV_X2_number.2
abbrev rm_X2_readLine : Room := { frames := 6, cells := 0, slots := 0, locals := 144 }
theorem hdV_X2_readLine : yX2_readLine.cls = RX2 ∧ yX2_readLine.cls ≠ "java/lang/invoke/MethodHandle" ∧ yX2_readLine.cls ≠ "java/lang/invoke/VarHandle" ∧ (parseMethodDescriptor yX2_readLine.desc).map (fun d => d.parameters.length) = some 0 := by decide +kernel
theorem hdN_X2_readLine : yX2_readLine.cls ≠ "java/lang/invoke/MethodHandle" ∧ yX2_readLine.cls ≠ "java/lang/invoke/VarHandle" ∧ (parseMethodDescriptor yX2_readLine.desc).map (fun d => d.parameters.length) = some 0 := hdV_X2_readLine.2
abbrev rm_X2_faultPlace : Room := { frames := 7, cells := 0, slots := 0, locals := 168 }
theorem hdV_X2_faultPlace : yX2_faultPlace.cls = RX2 ∧ yX2_faultPlace.cls ≠ "java/lang/invoke/MethodHandle" ∧ yX2_faultPlace.cls ≠ "java/lang/invoke/VarHandle" ∧ (parseMethodDescriptor yX2_faultPlace.desc).map (fun d => d.parameters.length) = some 2 := by decide +kernel
theorem hdN_X2_faultPlace : yX2_faultPlace.cls ≠ "java/lang/invoke/MethodHandle" ∧ yX2_faultPlace.cls ≠ "java/lang/invoke/VarHandle" ∧ (parseMethodDescriptor yX2_faultPlace.desc).map (fun d => d.parameters.length) = some 2 := hdV_X2_faultPlace.2
abbrev rm_X5_fault : Room := { frames := 8, cells := 0, slots := 0, locals := 190 }
theorem hdV_X5_fault : yX5_fault.cls = RX5 ∧ yX5_fault.cls ≠ "java/lang/invoke/MethodHandle" ∧ yX5_fault.cls ≠ "java/lang/invoke/VarHandle" ∧ (parseMethodDescriptor yX5_fault.desc).map (fun d => d.parameters.length) = some 0 := by decide +kernel
theorem hdN_X5_fault : yX5_fault.cls ≠ "java/lang/invoke/MethodHandle" ∧ yX5_fault.cls ≠ "java/lang/invoke/VarHandle" ∧ (parseMethodDescriptor yX5_fault.desc).map (fun d => d.parameters.length) = some 0 := hdV_X5_fault.2
abbrev rm_X4_restart : Room := { frames := 0, cells := 0, slots := 0, locals := 0 }
theorem hdV_X4_restart : yX4_restart.cls = RX4 ∧ yX4_restart.cls ≠ "java/lang/invoke/MethodHandle" ∧ yX4_restart.cls ≠ "java/lang/invoke/VarHandle" ∧ (parseMethodDescriptor yX4_restart.desc).map (fun d => d.parameters.length) = some 1 := by decide +kernel
theorem hdN_X4_restart : yX4_restart.cls ≠ "java/lang/invoke/MethodHandle" ∧ yX4_restart.cls ≠ "java/lang/invoke/VarHandle" ∧ (parseMethodDescriptor yX4_restart.desc).map (fun d => d.parameters.length) = some 1 := hdV_X4_restart.2
abbrev rm_X0_idleAll : Room := { frames := 0, cells := 0, slots := 0, locals := 0 }
theorem hdV_X0_idleAll : yX0_idleAll.cls = RX0 ∧ yX0_idleAll.cls ≠ "java/lang/invoke/MethodHandle" ∧ yX0_idleAll.cls ≠ "java/lang/invoke/VarHandle" ∧ (parseMethodDescriptor yX0_idleAll.desc).map (fun d => d.parameters.length) = some 0 := by decide +kernel
theorem hdN_X0_idleAll : yX0_idleAll.cls ≠ "java/lang/invoke/MethodHandle" ∧ yX0_idleAll.cls ≠ "java/lang/invoke/VarHandle" ∧ (parseMethodDescriptor yX0_idleAll.desc).map (fun d => d.parameters.length) = some 0 := hdV_X0_idleAll.2
abbrev rm_X5_has : Room := { frames := 0, cells := 0, slots := 0, locals := 0 }
theorem hdS_X5_has : yX5_has.cls ≠ "java/lang/invoke/MethodHandle" ∧ yX5_has.cls ≠ "java/lang/invoke/VarHandle" ∧ (parseMethodDescriptor yX5_has.desc).map (fun d => d.parameters.length) = some 2 := by decide +kernel
abbrev rm_X4_missing : Room := { frames := 0, cells := 0, slots := 0, locals := 0 }
theorem hdV_X4_missing : yX4_missing.cls = RX4 ∧ yX4_missing.cls ≠ "java/lang/invoke/MethodHandle" ∧ yX4_missing.cls ≠ "java/lang/invoke/VarHandle" ∧ (parseMethodDescriptor yX4_missing.desc).map (fun d => d.parameters.length) = some 2 := by decide +kernel
theorem hdN_X4_missing : yX4_missing.cls ≠ "java/lang/invoke/MethodHandle" ∧ yX4_missing.cls ≠ "java/lang/invoke/VarHandle" ∧ (parseMethodDescriptor yX4_missing.desc).map (fun d => d.parameters.length) = some 2 := hdV_X4_missing.2
abbrev rm_X4_can : Room := { frames := 1, cells := 0, slots := 0, locals := 22 }
theorem hdV_X4_can : yX4_can.cls = RX4 ∧ yX4_can.cls ≠ "java/lang/invoke/MethodHandle" ∧ yX4_can.cls ≠ "java/lang/invoke/VarHandle" ∧ (parseMethodDescriptor yX4_can.desc).map (fun d => d.parameters.length) = some 3 := by decide +kernel
theorem hdN_X4_can : yX4_can.cls ≠ "java/lang/invoke/MethodHandle" ∧ yX4_can.cls ≠ "java/lang/invoke/VarHandle" ∧ (parseMethodDescriptor yX4_can.desc).map (fun d => d.parameters.length) = some 3 := hdV_X4_can.2
abbrev rm_X4_setLiking : Room := { frames := 0, cells := 0, slots := 0, locals := 0 }
theorem hdV_X4_setLiking : yX4_setLiking.cls = RX4 ∧ yX4_setLiking.cls ≠ "java/lang/invoke/MethodHandle" ∧ yX4_setLiking.cls ≠ "java/lang/invoke/VarHandle" ∧ (parseMethodDescriptor yX4_setLiking.desc).map (fun d => d.parameters.length) = some 3 := by decide +kernel
theorem hdN_X4_setLiking : yX4_setLiking.cls ≠ "java/lang/invoke/MethodHandle" ∧ yX4_setLiking.cls ≠ "java/lang/invoke/VarHandle" ∧ (parseMethodDescriptor yX4_setLiking.desc).map (fun d => d.parameters.length) = some 3 := hdV_X4_setLiking.2
abbrev rm_X4_addDeed : Room := { frames := 0, cells := 0, slots := 0, locals := 0 }
theorem hdV_X4_addDeed : yX4_addDeed.cls = RX4 ∧ yX4_addDeed.cls ≠ "java/lang/invoke/MethodHandle" ∧ yX4_addDeed.cls ≠ "java/lang/invoke/VarHandle" ∧ (parseMethodDescriptor yX4_addDeed.desc).map (fun d => d.parameters.length) = some 5 := by decide +kernel
theorem hdN_X4_addDeed : yX4_addDeed.cls ≠ "java/lang/invoke/MethodHandle" ∧ yX4_addDeed.cls ≠ "java/lang/invoke/VarHandle" ∧ (parseMethodDescriptor yX4_addDeed.desc).map (fun d => d.parameters.length) = some 5 := hdV_X4_addDeed.2
abbrev rm_X5_perform : Room := { frames := 2, cells := 0, slots := 0, locals := 45 }
theorem hdV_X5_perform : yX5_perform.cls = RX5 ∧ yX5_perform.cls ≠ "java/lang/invoke/MethodHandle" ∧ yX5_perform.cls ≠ "java/lang/invoke/VarHandle" ∧ (parseMethodDescriptor yX5_perform.desc).map (fun d => d.parameters.length) = some 1 := by decide +kernel
theorem hdN_X5_perform : yX5_perform.cls ≠ "java/lang/invoke/MethodHandle" ∧ yX5_perform.cls ≠ "java/lang/invoke/VarHandle" ∧ (parseMethodDescriptor yX5_perform.desc).map (fun d => d.parameters.length) = some 1 := hdV_X5_perform.2
abbrev rm_X0_restart : Room := { frames := 0, cells := 0, slots := 0, locals := 0 }
theorem hdV_X0_restart : yX0_restart.cls = RX0 ∧ yX0_restart.cls ≠ "java/lang/invoke/MethodHandle" ∧ yX0_restart.cls ≠ "java/lang/invoke/VarHandle" ∧ (parseMethodDescriptor yX0_restart.desc).map (fun d => d.parameters.length) = some 0 := by decide +kernel
theorem hdN_X0_restart : yX0_restart.cls ≠ "java/lang/invoke/MethodHandle" ∧ yX0_restart.cls ≠ "java/lang/invoke/VarHandle" ∧ (parseMethodDescriptor yX0_restart.desc).map (fun d => d.parameters.length) = some 0 := hdV_X0_restart.2
abbrev rm_X3_clear : Room := { frames := 0, cells := 0, slots := 0, locals := 0 }
theorem hdV_X3_clear : yX3_clear.cls = RX3 ∧ yX3_clear.cls ≠ "java/lang/invoke/MethodHandle" ∧ yX3_clear.cls ≠ "java/lang/invoke/VarHandle" ∧ (parseMethodDescriptor yX3_clear.desc).map (fun d => d.parameters.length) = some 0 := by decide +kernel
theorem hdN_X3_clear : yX3_clear.cls ≠ "java/lang/invoke/MethodHandle" ∧ yX3_clear.cls ≠ "java/lang/invoke/VarHandle" ∧ (parseMethodDescriptor yX3_clear.desc).map (fun d => d.parameters.length) = some 0 := hdV_X3_clear.2
abbrev rm_X5_street : Room := { frames := 8, cells := 0, slots := 0, locals := 190 }
theorem hdV_X5_street : yX5_street.cls = RX5 ∧ yX5_street.cls ≠ "java/lang/invoke/MethodHandle" ∧ yX5_street.cls ≠ "java/lang/invoke/VarHandle" ∧ (parseMethodDescriptor yX5_street.desc).map (fun d => d.parameters.length) = some 0 := by decide +kernel
theorem hdN_X5_street : yX5_street.cls ≠ "java/lang/invoke/MethodHandle" ∧ yX5_street.cls ≠ "java/lang/invoke/VarHandle" ∧ (parseMethodDescriptor yX5_street.desc).map (fun d => d.parameters.length) = some 0 := hdV_X5_street.2
abbrev rm_X4_hasHouse : Room := { frames := 1, cells := 0, slots := 0, locals := 22 }
theorem hdV_X4_hasHouse : yX4_hasHouse.cls = RX4 ∧ yX4_hasHouse.cls ≠ "java/lang/invoke/MethodHandle" ∧ yX4_hasHouse.cls ≠ "java/lang/invoke/VarHandle" ∧ (parseMethodDescriptor yX4_hasHouse.desc).map (fun d => d.parameters.length) = some 1 := by decide +kernel
theorem hdN_X4_hasHouse : yX4_hasHouse.cls ≠ "java/lang/invoke/MethodHandle" ∧ yX4_hasHouse.cls ≠ "java/lang/invoke/VarHandle" ∧ (parseMethodDescriptor yX4_hasHouse.desc).map (fun d => d.parameters.length) = some 1 := hdV_X4_hasHouse.2
abbrev rm_X5_house : Room := { frames := 2, cells := 0, slots := 0, locals := 43 }
theorem hdV_X5_house : yX5_house.cls = RX5 ∧ yX5_house.cls ≠ "java/lang/invoke/MethodHandle" ∧ yX5_house.cls ≠ "java/lang/invoke/VarHandle" ∧ (parseMethodDescriptor yX5_house.desc).map (fun d => d.parameters.length) = some 2 := by decide +kernel
theorem hdN_X5_house : yX5_house.cls ≠ "java/lang/invoke/MethodHandle" ∧ yX5_house.cls ≠ "java/lang/invoke/VarHandle" ∧ (parseMethodDescriptor yX5_house.desc).map (fun d => d.parameters.length) = some 2 := hdV_X5_house.2
abbrev rm_X4_hasDeed : Room := { frames := 1, cells := 0, slots := 0, locals := 22 }
theorem hdV_X4_hasDeed : yX4_hasDeed.cls = RX4 ∧ yX4_hasDeed.cls ≠ "java/lang/invoke/MethodHandle" ∧ yX4_hasDeed.cls ≠ "java/lang/invoke/VarHandle" ∧ (parseMethodDescriptor yX4_hasDeed.desc).map (fun d => d.parameters.length) = some 1 := by decide +kernel
theorem hdN_X4_hasDeed : yX4_hasDeed.cls ≠ "java/lang/invoke/MethodHandle" ∧ yX4_hasDeed.cls ≠ "java/lang/invoke/VarHandle" ∧ (parseMethodDescriptor yX4_hasDeed.desc).map (fun d => d.parameters.length) = some 1 := hdV_X4_hasDeed.2
abbrev rm_X5_deed : Room := { frames := 2, cells := 0, slots := 0, locals := 43 }
theorem hdV_X5_deed : yX5_deed.cls = RX5 ∧ yX5_deed.cls ≠ "java/lang/invoke/MethodHandle" ∧ yX5_deed.cls ≠ "java/lang/invoke/VarHandle" ∧ (parseMethodDescriptor yX5_deed.desc).map (fun d => d.parameters.length) = some 2 := by decide +kernel
theorem hdN_X5_deed : yX5_deed.cls ≠ "java/lang/invoke/MethodHandle" ∧ yX5_deed.cls ≠ "java/lang/invoke/VarHandle" ∧ (parseMethodDescriptor yX5_deed.desc).map (fun d => d.parameters.length) = some 2 := hdV_X5_deed.2
abbrev rm_X4_isOfKind : Room := { frames := 0, cells := 0, slots := 0, locals := 0 }
theorem hdV_X4_isOfKind : yX4_isOfKind.cls = RX4 ∧ yX4_isOfKind.cls ≠ "java/lang/invoke/MethodHandle" ∧ yX4_isOfKind.cls ≠ "java/lang/invoke/VarHandle" ∧ (parseMethodDescriptor yX4_isOfKind.desc).map (fun d => d.parameters.length) = some 2 := by decide +kernel
theorem hdN_X4_isOfKind : yX4_isOfKind.cls ≠ "java/lang/invoke/MethodHandle" ∧ yX4_isOfKind.cls ≠ "java/lang/invoke/VarHandle" ∧ (parseMethodDescriptor yX4_isOfKind.desc).map (fun d => d.parameters.length) = some 2 := hdV_X4_isOfKind.2
abbrev rm_X4_doers : Room := { frames := 2, cells := 0, slots := 0, locals := 45 }
theorem hdV_X4_doers : yX4_doers.cls = RX4 ∧ yX4_doers.cls ≠ "java/lang/invoke/MethodHandle" ∧ yX4_doers.cls ≠ "java/lang/invoke/VarHandle" ∧ (parseMethodDescriptor yX4_doers.desc).map (fun d => d.parameters.length) = some 1 := by decide +kernel
theorem hdN_X4_doers : yX4_doers.cls ≠ "java/lang/invoke/MethodHandle" ∧ yX4_doers.cls ≠ "java/lang/invoke/VarHandle" ∧ (parseMethodDescriptor yX4_doers.desc).map (fun d => d.parameters.length) = some 1 := hdV_X4_doers.2
abbrev rm_X5_as : Room := { frames := 3, cells := 0, slots := 0, locals := 68 }
theorem hdV_X5_as : yX5_as.cls = RX5 ∧ yX5_as.cls ≠ "java/lang/invoke/MethodHandle" ∧ yX5_as.cls ≠ "java/lang/invoke/VarHandle" ∧ (parseMethodDescriptor yX5_as.desc).map (fun d => d.parameters.length) = some 2 := by decide +kernel
theorem hdN_X5_as : yX5_as.cls ≠ "java/lang/invoke/MethodHandle" ∧ yX5_as.cls ≠ "java/lang/invoke/VarHandle" ∧ (parseMethodDescriptor yX5_as.desc).map (fun d => d.parameters.length) = some 2 := hdV_X5_as.2
abbrev rm_X5_isDeedOrNone : Room := { frames := 2, cells := 0, slots := 0, locals := 43 }
theorem hdV_X5_isDeedOrNone : yX5_isDeedOrNone.cls = RX5 ∧ yX5_isDeedOrNone.cls ≠ "java/lang/invoke/MethodHandle" ∧ yX5_isDeedOrNone.cls ≠ "java/lang/invoke/VarHandle" ∧ (parseMethodDescriptor yX5_isDeedOrNone.desc).map (fun d => d.parameters.length) = some 1 := by decide +kernel
theorem hdN_X5_isDeedOrNone : yX5_isDeedOrNone.cls ≠ "java/lang/invoke/MethodHandle" ∧ yX5_isDeedOrNone.cls ≠ "java/lang/invoke/VarHandle" ∧ (parseMethodDescriptor yX5_isDeedOrNone.desc).map (fun d => d.parameters.length) = some 1 := hdV_X5_isDeedOrNone.2
abbrev rm_X5_set : Room := { frames := 3, cells := 0, slots := 0, locals := 64 }
theorem hdV_X5_set : yX5_set.cls = RX5 ∧ yX5_set.cls ≠ "java/lang/invoke/MethodHandle" ∧ yX5_set.cls ≠ "java/lang/invoke/VarHandle" ∧ (parseMethodDescriptor yX5_set.desc).map (fun d => d.parameters.length) = some 2 := by decide +kernel
theorem hdN_X5_set : yX5_set.cls ≠ "java/lang/invoke/MethodHandle" ∧ yX5_set.cls ≠ "java/lang/invoke/VarHandle" ∧ (parseMethodDescriptor yX5_set.desc).map (fun d => d.parameters.length) = some 2 := hdV_X5_set.2
abbrev rm_X0_noteDoers : Room := { frames := 0, cells := 0, slots := 0, locals := 0 }
theorem hdV_X0_noteDoers : yX0_noteDoers.cls = RX0 ∧ yX0_noteDoers.cls ≠ "java/lang/invoke/MethodHandle" ∧ yX0_noteDoers.cls ≠ "java/lang/invoke/VarHandle" ∧ (parseMethodDescriptor yX0_noteDoers.desc).map (fun d => d.parameters.length) = some 0 := by decide +kernel
theorem hdN_X0_noteDoers : yX0_noteDoers.cls ≠ "java/lang/invoke/MethodHandle" ∧ yX0_noteDoers.cls ≠ "java/lang/invoke/VarHandle" ∧ (parseMethodDescriptor yX0_noteDoers.desc).map (fun d => d.parameters.length) = some 0 := hdV_X0_noteDoers.2
abbrev rm_X4_mirrored : Room := { frames := 2, cells := 0, slots := 0, locals := 45 }
theorem hdV_X4_mirrored : yX4_mirrored.cls = RX4 ∧ yX4_mirrored.cls ≠ "java/lang/invoke/MethodHandle" ∧ yX4_mirrored.cls ≠ "java/lang/invoke/VarHandle" ∧ (parseMethodDescriptor yX4_mirrored.desc).map (fun d => d.parameters.length) = some 3 := by decide +kernel
theorem hdN_X4_mirrored : yX4_mirrored.cls ≠ "java/lang/invoke/MethodHandle" ∧ yX4_mirrored.cls ≠ "java/lang/invoke/VarHandle" ∧ (parseMethodDescriptor yX4_mirrored.desc).map (fun d => d.parameters.length) = some 3 := hdV_X4_mirrored.2
abbrev rm_X4_passDay : Room := { frames := 3, cells := 0, slots := 0, locals := 69 }
theorem hdV_X4_passDay : yX4_passDay.cls = RX4 ∧ yX4_passDay.cls ≠ "java/lang/invoke/MethodHandle" ∧ yX4_passDay.cls ≠ "java/lang/invoke/VarHandle" ∧ (parseMethodDescriptor yX4_passDay.desc).map (fun d => d.parameters.length) = some 2 := by decide +kernel
theorem hdN_X4_passDay : yX4_passDay.cls ≠ "java/lang/invoke/MethodHandle" ∧ yX4_passDay.cls ≠ "java/lang/invoke/VarHandle" ∧ (parseMethodDescriptor yX4_passDay.desc).map (fun d => d.parameters.length) = some 2 := hdV_X4_passDay.2
abbrev rm_X5_go : Room := { frames := 4, cells := 0, slots := 0, locals := 92 }
theorem hdV_X5_go : yX5_go.cls = RX5 ∧ yX5_go.cls ≠ "java/lang/invoke/MethodHandle" ∧ yX5_go.cls ≠ "java/lang/invoke/VarHandle" ∧ (parseMethodDescriptor yX5_go.desc).map (fun d => d.parameters.length) = some 1 := by decide +kernel
theorem hdN_X5_go : yX5_go.cls ≠ "java/lang/invoke/MethodHandle" ∧ yX5_go.cls ≠ "java/lang/invoke/VarHandle" ∧ (parseMethodDescriptor yX5_go.desc).map (fun d => d.parameters.length) = some 1 := hdV_X5_go.2
abbrev rm_X5_foresee : Room := { frames := 4, cells := 0, slots := 0, locals := 92 }
theorem hdV_X5_foresee : yX5_foresee.cls = RX5 ∧ yX5_foresee.cls ≠ "java/lang/invoke/MethodHandle" ∧ yX5_foresee.cls ≠ "java/lang/invoke/VarHandle" ∧ (parseMethodDescriptor yX5_foresee.desc).map (fun d => d.parameters.length) = some 1 := by decide +kernel
theorem hdN_X5_foresee : yX5_foresee.cls ≠ "java/lang/invoke/MethodHandle" ∧ yX5_foresee.cls ≠ "java/lang/invoke/VarHandle" ∧ (parseMethodDescriptor yX5_foresee.desc).map (fun d => d.parameters.length) = some 1 := hdV_X5_foresee.2
abbrev rm_X5_later : Room := { frames := 5, cells := 0, slots := 0, locals := 114 }
theorem hdV_X5_later : yX5_later.cls = RX5 ∧ yX5_later.cls ≠ "java/lang/invoke/MethodHandle" ∧ yX5_later.cls ≠ "java/lang/invoke/VarHandle" ∧ (parseMethodDescriptor yX5_later.desc).map (fun d => d.parameters.length) = some 2 := by decide +kernel
theorem hdN_X5_later : yX5_later.cls ≠ "java/lang/invoke/MethodHandle" ∧ yX5_later.cls ≠ "java/lang/invoke/VarHandle" ∧ (parseMethodDescriptor yX5_later.desc).map (fun d => d.parameters.length) = some 2 := hdV_X5_later.2
abbrev rm_X5_foreseeStates : Room := { frames := 5, cells := 0, slots := 0, locals := 114 }
theorem hdV_X5_foreseeStates : yX5_foreseeStates.cls = RX5 ∧ yX5_foreseeStates.cls ≠ "java/lang/invoke/MethodHandle" ∧ yX5_foreseeStates.cls ≠ "java/lang/invoke/VarHandle" ∧ (parseMethodDescriptor yX5_foreseeStates.desc).map (fun d => d.parameters.length) = some 0 := by decide +kernel
theorem hdN_X5_foreseeStates : yX5_foreseeStates.cls ≠ "java/lang/invoke/MethodHandle" ∧ yX5_foreseeStates.cls ≠ "java/lang/invoke/VarHandle" ∧ (parseMethodDescriptor yX5_foreseeStates.desc).map (fun d => d.parameters.length) = some 0 := hdV_X5_foreseeStates.2
abbrev rm_X5_again : Room := { frames := 6, cells := 0, slots := 0, locals := 137 }
theorem hdV_X5_again : yX5_again.cls = RX5 ∧ yX5_again.cls ≠ "java/lang/invoke/MethodHandle" ∧ yX5_again.cls ≠ "java/lang/invoke/VarHandle" ∧ (parseMethodDescriptor yX5_again.desc).map (fun d => d.parameters.length) = some 1 := by decide +kernel
theorem hdN_X5_again : yX5_again.cls ≠ "java/lang/invoke/MethodHandle" ∧ yX5_again.cls ≠ "java/lang/invoke/VarHandle" ∧ (parseMethodDescriptor yX5_again.desc).map (fun d => d.parameters.length) = some 1 := hdV_X5_again.2
abbrev rm_X5_refusalOf : Room := { frames := 2, cells := 0, slots := 0, locals := 43 }
theorem hdV_X5_refusalOf : yX5_refusalOf.cls = RX5 ∧ yX5_refusalOf.cls ≠ "java/lang/invoke/MethodHandle" ∧ yX5_refusalOf.cls ≠ "java/lang/invoke/VarHandle" ∧ (parseMethodDescriptor yX5_refusalOf.desc).map (fun d => d.parameters.length) = some 3 := by decide +kernel
theorem hdN_X5_refusalOf : yX5_refusalOf.cls ≠ "java/lang/invoke/MethodHandle" ∧ yX5_refusalOf.cls ≠ "java/lang/invoke/VarHandle" ∧ (parseMethodDescriptor yX5_refusalOf.desc).map (fun d => d.parameters.length) = some 3 := hdV_X5_refusalOf.2
abbrev rm_X4_abilities : Room := { frames := 2, cells := 0, slots := 0, locals := 45 }
theorem hdV_X4_abilities : yX4_abilities.cls = RX4 ∧ yX4_abilities.cls ≠ "java/lang/invoke/MethodHandle" ∧ yX4_abilities.cls ≠ "java/lang/invoke/VarHandle" ∧ (parseMethodDescriptor yX4_abilities.desc).map (fun d => d.parameters.length) = some 1 := by decide +kernel
theorem hdN_X4_abilities : yX4_abilities.cls ≠ "java/lang/invoke/MethodHandle" ∧ yX4_abilities.cls ≠ "java/lang/invoke/VarHandle" ∧ (parseMethodDescriptor yX4_abilities.desc).map (fun d => d.parameters.length) = some 1 := hdV_X4_abilities.2
abbrev rm_X4_passing : Room := { frames := 3, cells := 0, slots := 0, locals := 68 }
theorem hdV_X4_passing : yX4_passing.cls = RX4 ∧ yX4_passing.cls ≠ "java/lang/invoke/MethodHandle" ∧ yX4_passing.cls ≠ "java/lang/invoke/VarHandle" ∧ (parseMethodDescriptor yX4_passing.desc).map (fun d => d.parameters.length) = some 2 := by decide +kernel
theorem hdN_X4_passing : yX4_passing.cls ≠ "java/lang/invoke/MethodHandle" ∧ yX4_passing.cls ≠ "java/lang/invoke/VarHandle" ∧ (parseMethodDescriptor yX4_passing.desc).map (fun d => d.parameters.length) = some 2 := hdV_X4_passing.2
abbrev rm_X4_wayEnd : Room := { frames := 0, cells := 0, slots := 0, locals := 0 }
theorem hdV_X4_wayEnd : yX4_wayEnd.cls = RX4 ∧ yX4_wayEnd.cls ≠ "java/lang/invoke/MethodHandle" ∧ yX4_wayEnd.cls ≠ "java/lang/invoke/VarHandle" ∧ (parseMethodDescriptor yX4_wayEnd.desc).map (fun d => d.parameters.length) = some 2 := by decide +kernel
theorem hdN_X4_wayEnd : yX4_wayEnd.cls ≠ "java/lang/invoke/MethodHandle" ∧ yX4_wayEnd.cls ≠ "java/lang/invoke/VarHandle" ∧ (parseMethodDescriptor yX4_wayEnd.desc).map (fun d => d.parameters.length) = some 2 := hdV_X4_wayEnd.2
abbrev rm_X5_first : Room := { frames := 4, cells := 0, slots := 0, locals := 93 }
theorem hdV_X5_first : yX5_first.cls = RX5 ∧ yX5_first.cls ≠ "java/lang/invoke/MethodHandle" ∧ yX5_first.cls ≠ "java/lang/invoke/VarHandle" ∧ (parseMethodDescriptor yX5_first.desc).map (fun d => d.parameters.length) = some 3 := by decide +kernel
theorem hdN_X5_first : yX5_first.cls ≠ "java/lang/invoke/MethodHandle" ∧ yX5_first.cls ≠ "java/lang/invoke/VarHandle" ∧ (parseMethodDescriptor yX5_first.desc).map (fun d => d.parameters.length) = some 3 := hdV_X5_first.2
abbrev rm_J6_bitCount_0f7a4 : Room := { frames := 0, cells := 0, slots := 0, locals := 0 }
theorem hdS_J6_bitCount_0f7a4 : yJ6_bitCount_0f7a4.cls ≠ "java/lang/invoke/MethodHandle" ∧ yJ6_bitCount_0f7a4.cls ≠ "java/lang/invoke/VarHandle" ∧ (parseMethodDescriptor yJ6_bitCount_0f7a4.desc).map (fun d => d.parameters.length) = some 1 := by decide +kernel
abbrev rm_X4_lacking : Room := { frames := 1, cells := 0, slots := 0, locals := 22 }
theorem hdV_X4_lacking : yX4_lacking.cls = RX4 ∧ yX4_lacking.cls ≠ "java/lang/invoke/MethodHandle" ∧ yX4_lacking.cls ≠ "java/lang/invoke/VarHandle" ∧ (parseMethodDescriptor yX4_lacking.desc).map (fun d => d.parameters.length) = some 2 := by decide +kernel
theorem hdN_X4_lacking : yX4_lacking.cls ≠ "java/lang/invoke/MethodHandle" ∧ yX4_lacking.cls ≠ "java/lang/invoke/VarHandle" ∧ (parseMethodDescriptor yX4_lacking.desc).map (fun d => d.parameters.length) = some 2 := hdV_X4_lacking.2
abbrev rm_X5_lack : Room := { frames := 3, cells := 0, slots := 0, locals := 66 }
theorem hdV_X5_lack : yX5_lack.cls = RX5 ∧ yX5_lack.cls ≠ "java/lang/invoke/MethodHandle" ∧ yX5_lack.cls ≠ "java/lang/invoke/VarHandle" ∧ (parseMethodDescriptor yX5_lack.desc).map (fun d => d.parameters.length) = some 3 := by decide +kernel
theorem hdN_X5_lack : yX5_lack.cls ≠ "java/lang/invoke/MethodHandle" ∧ yX5_lack.cls ≠ "java/lang/invoke/VarHandle" ∧ (parseMethodDescriptor yX5_lack.desc).map (fun d => d.parameters.length) = some 3 := hdV_X5_lack.2
abbrev rm_X3_add : Room := { frames := 0, cells := 0, slots := 0, locals := 0 }
theorem hdV_X3_add : yX3_add.cls = RX3 ∧ yX3_add.cls ≠ "java/lang/invoke/MethodHandle" ∧ yX3_add.cls ≠ "java/lang/invoke/VarHandle" ∧ (parseMethodDescriptor yX3_add.desc).map (fun d => d.parameters.length) = some 3 := by decide +kernel
theorem hdN_X3_add : yX3_add.cls ≠ "java/lang/invoke/MethodHandle" ∧ yX3_add.cls ≠ "java/lang/invoke/VarHandle" ∧ (parseMethodDescriptor yX3_add.desc).map (fun d => d.parameters.length) = some 3 := hdV_X3_add.2
abbrev rm_X5_wish : Room := { frames := 3, cells := 0, slots := 0, locals := 66 }
theorem hdV_X5_wish : yX5_wish.cls = RX5 ∧ yX5_wish.cls ≠ "java/lang/invoke/MethodHandle" ∧ yX5_wish.cls ≠ "java/lang/invoke/VarHandle" ∧ (parseMethodDescriptor yX5_wish.desc).map (fun d => d.parameters.length) = some 3 := by decide +kernel
theorem hdN_X5_wish : yX5_wish.cls ≠ "java/lang/invoke/MethodHandle" ∧ yX5_wish.cls ≠ "java/lang/invoke/VarHandle" ∧ (parseMethodDescriptor yX5_wish.desc).map (fun d => d.parameters.length) = some 3 := hdV_X5_wish.2
abbrev rm_X5_drop : Room := { frames := 1, cells := 0, slots := 0, locals := 21 }
theorem hdV_X5_drop : yX5_drop.cls = RX5 ∧ yX5_drop.cls ≠ "java/lang/invoke/MethodHandle" ∧ yX5_drop.cls ≠ "java/lang/invoke/VarHandle" ∧ (parseMethodDescriptor yX5_drop.desc).map (fun d => d.parameters.length) = some 0 := by decide +kernel
theorem hdN_X5_drop : yX5_drop.cls ≠ "java/lang/invoke/MethodHandle" ∧ yX5_drop.cls ≠ "java/lang/invoke/VarHandle" ∧ (parseMethodDescriptor yX5_drop.desc).map (fun d => d.parameters.length) = some 0 := hdV_X5_drop.2
abbrev rm_X5_narrow : Room := { frames := 4, cells := 0, slots := 0, locals := 93 }
theorem hdV_X5_narrow : yX5_narrow.cls = RX5 ∧ yX5_narrow.cls ≠ "java/lang/invoke/MethodHandle" ∧ yX5_narrow.cls ≠ "java/lang/invoke/VarHandle" ∧ (parseMethodDescriptor yX5_narrow.desc).map (fun d => d.parameters.length) = some 3 := by decide +kernel
theorem hdN_X5_narrow : yX5_narrow.cls ≠ "java/lang/invoke/MethodHandle" ∧ yX5_narrow.cls ≠ "java/lang/invoke/VarHandle" ∧ (parseMethodDescriptor yX5_narrow.desc).map (fun d => d.parameters.length) = some 3 := hdV_X5_narrow.2
abbrev rm_X5_rowsThatFit : Room := { frames := 5, cells := 0, slots := 0, locals := 118 }
theorem hdV_X5_rowsThatFit : yX5_rowsThatFit.cls = RX5 ∧ yX5_rowsThatFit.cls ≠ "java/lang/invoke/MethodHandle" ∧ yX5_rowsThatFit.cls ≠ "java/lang/invoke/VarHandle" ∧ (parseMethodDescriptor yX5_rowsThatFit.desc).map (fun d => d.parameters.length) = some 1 := by decide +kernel
theorem hdN_X5_rowsThatFit : yX5_rowsThatFit.cls ≠ "java/lang/invoke/MethodHandle" ∧ yX5_rowsThatFit.cls ≠ "java/lang/invoke/VarHandle" ∧ (parseMethodDescriptor yX5_rowsThatFit.desc).map (fun d => d.parameters.length) = some 1 := hdV_X5_rowsThatFit.2
abbrev rm_X5_ways : Room := { frames := 6, cells := 0, slots := 0, locals := 141 }
theorem hdV_X5_ways : yX5_ways.cls = RX5 ∧ yX5_ways.cls ≠ "java/lang/invoke/MethodHandle" ∧ yX5_ways.cls ≠ "java/lang/invoke/VarHandle" ∧ (parseMethodDescriptor yX5_ways.desc).map (fun d => d.parameters.length) = some 0 := by decide +kernel
theorem hdN_X5_ways : yX5_ways.cls ≠ "java/lang/invoke/MethodHandle" ∧ yX5_ways.cls ≠ "java/lang/invoke/VarHandle" ∧ (parseMethodDescriptor yX5_ways.desc).map (fun d => d.parameters.length) = some 0 := hdV_X5_ways.2
abbrev rm_X1_clear : Room := { frames := 0, cells := 0, slots := 0, locals := 0 }
theorem hdV_X1_clear : yX1_clear.cls = RX1 ∧ yX1_clear.cls ≠ "java/lang/invoke/MethodHandle" ∧ yX1_clear.cls ≠ "java/lang/invoke/VarHandle" ∧ (parseMethodDescriptor yX1_clear.desc).map (fun d => d.parameters.length) = some 0 := by decide +kernel
theorem hdN_X1_clear : yX1_clear.cls ≠ "java/lang/invoke/MethodHandle" ∧ yX1_clear.cls ≠ "java/lang/invoke/VarHandle" ∧ (parseMethodDescriptor yX1_clear.desc).map (fun d => d.parameters.length) = some 0 := hdV_X1_clear.2
abbrev rm_X1_note : Room := { frames := 0, cells := 0, slots := 0, locals := 0 }
theorem hdV_X1_note : yX1_note.cls = RX1 ∧ yX1_note.cls ≠ "java/lang/invoke/MethodHandle" ∧ yX1_note.cls ≠ "java/lang/invoke/VarHandle" ∧ (parseMethodDescriptor yX1_note.desc).map (fun d => d.parameters.length) = some 3 := by decide +kernel
theorem hdN_X1_note : yX1_note.cls ≠ "java/lang/invoke/MethodHandle" ∧ yX1_note.cls ≠ "java/lang/invoke/VarHandle" ∧ (parseMethodDescriptor yX1_note.desc).map (fun d => d.parameters.length) = some 3 := hdV_X1_note.2
abbrev rm_X5_tally : Room := { frames := 5, cells := 0, slots := 0, locals := 114 }
theorem hdV_X5_tally : yX5_tally.cls = RX5 ∧ yX5_tally.cls ≠ "java/lang/invoke/MethodHandle" ∧ yX5_tally.cls ≠ "java/lang/invoke/VarHandle" ∧ (parseMethodDescriptor yX5_tally.desc).map (fun d => d.parameters.length) = some 3 := by decide +kernel
theorem hdN_X5_tally : yX5_tally.cls ≠ "java/lang/invoke/MethodHandle" ∧ yX5_tally.cls ≠ "java/lang/invoke/VarHandle" ∧ (parseMethodDescriptor yX5_tally.desc).map (fun d => d.parameters.length) = some 3 := hdV_X5_tally.2
abbrev rm_X5_sum : Room := { frames := 6, cells := 0, slots := 0, locals := 139 }
theorem hdV_X5_sum : yX5_sum.cls = RX5 ∧ yX5_sum.cls ≠ "java/lang/invoke/MethodHandle" ∧ yX5_sum.cls ≠ "java/lang/invoke/VarHandle" ∧ (parseMethodDescriptor yX5_sum.desc).map (fun d => d.parameters.length) = some 2 := by decide +kernel
theorem hdN_X5_sum : yX5_sum.cls ≠ "java/lang/invoke/MethodHandle" ∧ yX5_sum.cls ≠ "java/lang/invoke/VarHandle" ∧ (parseMethodDescriptor yX5_sum.desc).map (fun d => d.parameters.length) = some 2 := hdV_X5_sum.2
abbrev rm_X5_council : Room := { frames := 6, cells := 0, slots := 0, locals := 139 }
theorem hdV_X5_council : yX5_council.cls = RX5 ∧ yX5_council.cls ≠ "java/lang/invoke/MethodHandle" ∧ yX5_council.cls ≠ "java/lang/invoke/VarHandle" ∧ (parseMethodDescriptor yX5_council.desc).map (fun d => d.parameters.length) = some 3 := by decide +kernel
theorem hdN_X5_council : yX5_council.cls ≠ "java/lang/invoke/MethodHandle" ∧ yX5_council.cls ≠ "java/lang/invoke/VarHandle" ∧ (parseMethodDescriptor yX5_council.desc).map (fun d => d.parameters.length) = some 3 := hdV_X5_council.2
abbrev rm_X5_idle : Room := { frames := 5, cells := 0, slots := 0, locals := 114 }
theorem hdV_X5_idle : yX5_idle.cls = RX5 ∧ yX5_idle.cls ≠ "java/lang/invoke/MethodHandle" ∧ yX5_idle.cls ≠ "java/lang/invoke/VarHandle" ∧ (parseMethodDescriptor yX5_idle.desc).map (fun d => d.parameters.length) = some 3 := by decide +kernel
theorem hdN_X5_idle : yX5_idle.cls ≠ "java/lang/invoke/MethodHandle" ∧ yX5_idle.cls ≠ "java/lang/invoke/VarHandle" ∧ (parseMethodDescriptor yX5_idle.desc).map (fun d => d.parameters.length) = some 3 := hdV_X5_idle.2
abbrev rm_X5_power : Room := { frames := 0, cells := 0, slots := 0, locals := 0 }
theorem hdS_X5_power : yX5_power.cls ≠ "java/lang/invoke/MethodHandle" ∧ yX5_power.cls ≠ "java/lang/invoke/VarHandle" ∧ (parseMethodDescriptor yX5_power.desc).map (fun d => d.parameters.length) = some 2 := by decide +kernel
abbrev rm_X5_odds : Room := { frames := 5, cells := 0, slots := 0, locals := 114 }
theorem hdV_X5_odds : yX5_odds.cls = RX5 ∧ yX5_odds.cls ≠ "java/lang/invoke/MethodHandle" ∧ yX5_odds.cls ≠ "java/lang/invoke/VarHandle" ∧ (parseMethodDescriptor yX5_odds.desc).map (fun d => d.parameters.length) = some 4 := by decide +kernel
theorem hdN_X5_odds : yX5_odds.cls ≠ "java/lang/invoke/MethodHandle" ∧ yX5_odds.cls ≠ "java/lang/invoke/VarHandle" ∧ (parseMethodDescriptor yX5_odds.desc).map (fun d => d.parameters.length) = some 4 := hdV_X5_odds.2
abbrev rm_J6_numberOfTrailingZeros_0f7a4 : Room := { frames := 0, cells := 0, slots := 0, locals := 0 }
theorem hdS_J6_numberOfTrailingZeros_0f7a4 : yJ6_numberOfTrailingZeros_0f7a4.cls ≠ "java/lang/invoke/MethodHandle" ∧ yJ6_numberOfTrailingZeros_0f7a4.cls ≠ "java/lang/invoke/VarHandle" ∧ (parseMethodDescriptor yJ6_numberOfTrailingZeros_0f7a4.desc).map (fun d => d.parameters.length) = some 1 := by decide +kernel
abbrev rm_X5_likingWith : Room := { frames := 0, cells := 0, slots := 0, locals := 0 }
theorem hdV_X5_likingWith : yX5_likingWith.cls = RX5 ∧ yX5_likingWith.cls ≠ "java/lang/invoke/MethodHandle" ∧ yX5_likingWith.cls ≠ "java/lang/invoke/VarHandle" ∧ (parseMethodDescriptor yX5_likingWith.desc).map (fun d => d.parameters.length) = some 3 := by decide +kernel
theorem hdN_X5_likingWith : yX5_likingWith.cls ≠ "java/lang/invoke/MethodHandle" ∧ yX5_likingWith.cls ≠ "java/lang/invoke/VarHandle" ∧ (parseMethodDescriptor yX5_likingWith.desc).map (fun d => d.parameters.length) = some 3 := hdV_X5_likingWith.2
abbrev rm_X5_likeBest : Room := { frames := 1, cells := 0, slots := 0, locals := 23 }
theorem hdV_X5_likeBest : yX5_likeBest.cls = RX5 ∧ yX5_likeBest.cls ≠ "java/lang/invoke/MethodHandle" ∧ yX5_likeBest.cls ≠ "java/lang/invoke/VarHandle" ∧ (parseMethodDescriptor yX5_likeBest.desc).map (fun d => d.parameters.length) = some 0 := by decide +kernel
theorem hdN_X5_likeBest : yX5_likeBest.cls ≠ "java/lang/invoke/MethodHandle" ∧ yX5_likeBest.cls ≠ "java/lang/invoke/VarHandle" ∧ (parseMethodDescriptor yX5_likeBest.desc).map (fun d => d.parameters.length) = some 0 := hdV_X5_likeBest.2
abbrev rm_X5_leastPartner : Room := { frames := 1, cells := 0, slots := 0, locals := 23 }
theorem hdV_X5_leastPartner : yX5_leastPartner.cls = RX5 ∧ yX5_leastPartner.cls ≠ "java/lang/invoke/MethodHandle" ∧ yX5_leastPartner.cls ≠ "java/lang/invoke/VarHandle" ∧ (parseMethodDescriptor yX5_leastPartner.desc).map (fun d => d.parameters.length) = some 2 := by decide +kernel
theorem hdN_X5_leastPartner : yX5_leastPartner.cls ≠ "java/lang/invoke/MethodHandle" ∧ yX5_leastPartner.cls ≠ "java/lang/invoke/VarHandle" ∧ (parseMethodDescriptor yX5_leastPartner.desc).map (fun d => d.parameters.length) = some 2 := hdV_X5_leastPartner.2
abbrev rm_X5_bestPartner : Room := { frames := 2, cells := 0, slots := 0, locals := 47 }
theorem hdV_X5_bestPartner : yX5_bestPartner.cls = RX5 ∧ yX5_bestPartner.cls ≠ "java/lang/invoke/MethodHandle" ∧ yX5_bestPartner.cls ≠ "java/lang/invoke/VarHandle" ∧ (parseMethodDescriptor yX5_bestPartner.desc).map (fun d => d.parameters.length) = some 1 := by decide +kernel
theorem hdN_X5_bestPartner : yX5_bestPartner.cls ≠ "java/lang/invoke/MethodHandle" ∧ yX5_bestPartner.cls ≠ "java/lang/invoke/VarHandle" ∧ (parseMethodDescriptor yX5_bestPartner.desc).map (fun d => d.parameters.length) = some 1 := hdV_X5_bestPartner.2
abbrev rm_X5_pair : Room := { frames := 3, cells := 0, slots := 0, locals := 71 }
theorem hdV_X5_pair : yX5_pair.cls = RX5 ∧ yX5_pair.cls ≠ "java/lang/invoke/MethodHandle" ∧ yX5_pair.cls ≠ "java/lang/invoke/VarHandle" ∧ (parseMethodDescriptor yX5_pair.desc).map (fun d => d.parameters.length) = some 1 := by decide +kernel
theorem hdN_X5_pair : yX5_pair.cls ≠ "java/lang/invoke/MethodHandle" ∧ yX5_pair.cls ≠ "java/lang/invoke/VarHandle" ∧ (parseMethodDescriptor yX5_pair.desc).map (fun d => d.parameters.length) = some 1 := hdV_X5_pair.2
abbrev rm_X4_roundOf : Room := { frames := 0, cells := 0, slots := 0, locals := 0 }
theorem hdV_X4_roundOf : yX4_roundOf.cls = RX4 ∧ yX4_roundOf.cls ≠ "java/lang/invoke/MethodHandle" ∧ yX4_roundOf.cls ≠ "java/lang/invoke/VarHandle" ∧ (parseMethodDescriptor yX4_roundOf.desc).map (fun d => d.parameters.length) = some 1 := by decide +kernel
theorem hdN_X4_roundOf : yX4_roundOf.cls ≠ "java/lang/invoke/MethodHandle" ∧ yX4_roundOf.cls ≠ "java/lang/invoke/VarHandle" ∧ (parseMethodDescriptor yX4_roundOf.desc).map (fun d => d.parameters.length) = some 1 := hdV_X4_roundOf.2
abbrev rm_X5_town : Room := { frames := 1, cells := 0, slots := 0, locals := 24 }
theorem hdV_X5_town : yX5_town.cls = RX5 ∧ yX5_town.cls ≠ "java/lang/invoke/MethodHandle" ∧ yX5_town.cls ≠ "java/lang/invoke/VarHandle" ∧ (parseMethodDescriptor yX5_town.desc).map (fun d => d.parameters.length) = some 1 := by decide +kernel
theorem hdN_X5_town : yX5_town.cls ≠ "java/lang/invoke/MethodHandle" ∧ yX5_town.cls ≠ "java/lang/invoke/VarHandle" ∧ (parseMethodDescriptor yX5_town.desc).map (fun d => d.parameters.length) = some 1 := hdV_X5_town.2
abbrev rm_X5_seen : Room := { frames := 3, cells := 0, slots := 0, locals := 64 }
theorem hdV_X5_seen : yX5_seen.cls = RX5 ∧ yX5_seen.cls ≠ "java/lang/invoke/MethodHandle" ∧ yX5_seen.cls ≠ "java/lang/invoke/VarHandle" ∧ (parseMethodDescriptor yX5_seen.desc).map (fun d => d.parameters.length) = some 3 := by decide +kernel
theorem hdN_X5_seen : yX5_seen.cls ≠ "java/lang/invoke/MethodHandle" ∧ yX5_seen.cls ≠ "java/lang/invoke/VarHandle" ∧ (parseMethodDescriptor yX5_seen.desc).map (fun d => d.parameters.length) = some 3 := hdV_X5_seen.2
abbrev rm_X5_forget : Room := { frames := 1, cells := 0, slots := 0, locals := 21 }
theorem hdV_X5_forget : yX5_forget.cls = RX5 ∧ yX5_forget.cls ≠ "java/lang/invoke/MethodHandle" ∧ yX5_forget.cls ≠ "java/lang/invoke/VarHandle" ∧ (parseMethodDescriptor yX5_forget.desc).map (fun d => d.parameters.length) = some 0 := by decide +kernel
theorem hdN_X5_forget : yX5_forget.cls ≠ "java/lang/invoke/MethodHandle" ∧ yX5_forget.cls ≠ "java/lang/invoke/VarHandle" ∧ (parseMethodDescriptor yX5_forget.desc).map (fun d => d.parameters.length) = some 0 := hdV_X5_forget.2
abbrev rm_X5_fits : Room := { frames := 6, cells := 0, slots := 0, locals := 141 }
theorem hdV_X5_fits : yX5_fits.cls = RX5 ∧ yX5_fits.cls ≠ "java/lang/invoke/MethodHandle" ∧ yX5_fits.cls ≠ "java/lang/invoke/VarHandle" ∧ (parseMethodDescriptor yX5_fits.desc).map (fun d => d.parameters.length) = some 1 := by decide +kernel
theorem hdN_X5_fits : yX5_fits.cls ≠ "java/lang/invoke/MethodHandle" ∧ yX5_fits.cls ≠ "java/lang/invoke/VarHandle" ∧ (parseMethodDescriptor yX5_fits.desc).map (fun d => d.parameters.length) = some 1 := hdV_X5_fits.2
abbrev rm_X0_copy : Room := { frames := 1, cells := 0, slots := 0, locals := 60 }
theorem hdV_X0_copy : yX0_copy.cls = RX0 ∧ yX0_copy.cls ≠ "java/lang/invoke/MethodHandle" ∧ yX0_copy.cls ≠ "java/lang/invoke/VarHandle" ∧ (parseMethodDescriptor yX0_copy.desc).map (fun d => d.parameters.length) = some 1 := by decide +kernel
theorem hdN_X0_copy : yX0_copy.cls ≠ "java/lang/invoke/MethodHandle" ∧ yX0_copy.cls ≠ "java/lang/invoke/VarHandle" ∧ (parseMethodDescriptor yX0_copy.desc).map (fun d => d.parameters.length) = some 1 := hdV_X0_copy.2
abbrev rm_X5_keep : Room := { frames := 2, cells := 0, slots := 0, locals := 81 }
theorem hdV_X5_keep : yX5_keep.cls = RX5 ∧ yX5_keep.cls ≠ "java/lang/invoke/MethodHandle" ∧ yX5_keep.cls ≠ "java/lang/invoke/VarHandle" ∧ (parseMethodDescriptor yX5_keep.desc).map (fun d => d.parameters.length) = some 1 := by decide +kernel
theorem hdN_X5_keep : yX5_keep.cls ≠ "java/lang/invoke/MethodHandle" ∧ yX5_keep.cls ≠ "java/lang/invoke/VarHandle" ∧ (parseMethodDescriptor yX5_keep.desc).map (fun d => d.parameters.length) = some 1 := hdV_X5_keep.2
abbrev rm_X5_back : Room := { frames := 2, cells := 0, slots := 0, locals := 81 }
theorem hdV_X5_back : yX5_back.cls = RX5 ∧ yX5_back.cls ≠ "java/lang/invoke/MethodHandle" ∧ yX5_back.cls ≠ "java/lang/invoke/VarHandle" ∧ (parseMethodDescriptor yX5_back.desc).map (fun d => d.parameters.length) = some 1 := by decide +kernel
theorem hdN_X5_back : yX5_back.cls ≠ "java/lang/invoke/MethodHandle" ∧ yX5_back.cls ≠ "java/lang/invoke/VarHandle" ∧ (parseMethodDescriptor yX5_back.desc).map (fun d => d.parameters.length) = some 1 := hdV_X5_back.2
abbrev rm_X5_count : Room := { frames := 0, cells := 0, slots := 0, locals := 0 }
theorem hdV_X5_count : yX5_count.cls = RX5 ∧ yX5_count.cls ≠ "java/lang/invoke/MethodHandle" ∧ yX5_count.cls ≠ "java/lang/invoke/VarHandle" ∧ (parseMethodDescriptor yX5_count.desc).map (fun d => d.parameters.length) = some 1 := by decide +kernel
theorem hdN_X5_count : yX5_count.cls ≠ "java/lang/invoke/MethodHandle" ∧ yX5_count.cls ≠ "java/lang/invoke/VarHandle" ∧ (parseMethodDescriptor yX5_count.desc).map (fun d => d.parameters.length) = some 1 := hdV_X5_count.2
abbrev rm_X6_in : Room := { frames := 0, cells := 0, slots := 0, locals := 0 }
theorem hdS_X6_in : yX6_in.cls ≠ "java/lang/invoke/MethodHandle" ∧ yX6_in.cls ≠ "java/lang/invoke/VarHandle" ∧ (parseMethodDescriptor yX6_in.desc).map (fun d => d.parameters.length) = some 3 := by decide +kernel
abbrev rm_X6_write : Room := { frames := 1, cells := 0, slots := 0, locals := 25 }
theorem hdV_X6_write : yX6_write.cls = RX6 ∧ yX6_write.cls ≠ "java/lang/invoke/MethodHandle" ∧ yX6_write.cls ≠ "java/lang/invoke/VarHandle" ∧ (parseMethodDescriptor yX6_write.desc).map (fun d => d.parameters.length) = some 2 := by decide +kernel
theorem hdN_X6_write : yX6_write.cls ≠ "java/lang/invoke/MethodHandle" ∧ yX6_write.cls ≠ "java/lang/invoke/VarHandle" ∧ (parseMethodDescriptor yX6_write.desc).map (fun d => d.parameters.length) = some 2 := hdV_X6_write.2
abbrev rm_X6_erase : Room := { frames := 0, cells := 0, slots := 0, locals := 0 }
theorem hdV_X6_erase : yX6_erase.cls = RX6 ∧ yX6_erase.cls ≠ "java/lang/invoke/MethodHandle" ∧ yX6_erase.cls ≠ "java/lang/invoke/VarHandle" ∧ (parseMethodDescriptor yX6_erase.desc).map (fun d => d.parameters.length) = some 0 := by decide +kernel
theorem hdN_X6_erase : yX6_erase.cls ≠ "java/lang/invoke/MethodHandle" ∧ yX6_erase.cls ≠ "java/lang/invoke/VarHandle" ∧ (parseMethodDescriptor yX6_erase.desc).map (fun d => d.parameters.length) = some 0 := hdV_X6_erase.2
abbrev rm_X6_sort : Room := { frames := 0, cells := 0, slots := 0, locals := 0 }
theorem hdS_X6_sort : yX6_sort.cls ≠ "java/lang/invoke/MethodHandle" ∧ yX6_sort.cls ≠ "java/lang/invoke/VarHandle" ∧ (parseMethodDescriptor yX6_sort.desc).map (fun d => d.parameters.length) = some 1 := by decide +kernel
abbrev rm_X6_token : Room := { frames := 1, cells := 0, slots := 0, locals := 20 }
theorem hdV_X6_token : yX6_token.cls = RX6 ∧ yX6_token.cls ≠ "java/lang/invoke/MethodHandle" ∧ yX6_token.cls ≠ "java/lang/invoke/VarHandle" ∧ (parseMethodDescriptor yX6_token.desc).map (fun d => d.parameters.length) = some 0 := by decide +kernel
theorem hdN_X6_token : yX6_token.cls ≠ "java/lang/invoke/MethodHandle" ∧ yX6_token.cls ≠ "java/lang/invoke/VarHandle" ∧ (parseMethodDescriptor yX6_token.desc).map (fun d => d.parameters.length) = some 0 := hdV_X6_token.2
abbrev rm_X6_isWord : Room := { frames := 0, cells := 0, slots := 0, locals := 0 }
theorem hdV_X6_isWord : yX6_isWord.cls = RX6 ∧ yX6_isWord.cls ≠ "java/lang/invoke/MethodHandle" ∧ yX6_isWord.cls ≠ "java/lang/invoke/VarHandle" ∧ (parseMethodDescriptor yX6_isWord.desc).map (fun d => d.parameters.length) = some 2 := by decide +kernel
theorem hdN_X6_isWord : yX6_isWord.cls ≠ "java/lang/invoke/MethodHandle" ∧ yX6_isWord.cls ≠ "java/lang/invoke/VarHandle" ∧ (parseMethodDescriptor yX6_isWord.desc).map (fun d => d.parameters.length) = some 2 := hdV_X6_isWord.2
abbrev rm_X6_deedWord : Room := { frames := 1, cells := 0, slots := 0, locals := 24 }
theorem hdV_X6_deedWord : yX6_deedWord.cls = RX6 ∧ yX6_deedWord.cls ≠ "java/lang/invoke/MethodHandle" ∧ yX6_deedWord.cls ≠ "java/lang/invoke/VarHandle" ∧ (parseMethodDescriptor yX6_deedWord.desc).map (fun d => d.parameters.length) = some 0 := by decide +kernel
theorem hdN_X6_deedWord : yX6_deedWord.cls ≠ "java/lang/invoke/MethodHandle" ∧ yX6_deedWord.cls ≠ "java/lang/invoke/VarHandle" ∧ (parseMethodDescriptor yX6_deedWord.desc).map (fun d => d.parameters.length) = some 0 := hdV_X6_deedWord.2
abbrev rm_X6_houseWord : Room := { frames := 1, cells := 0, slots := 0, locals := 24 }
theorem hdV_X6_houseWord : yX6_houseWord.cls = RX6 ∧ yX6_houseWord.cls ≠ "java/lang/invoke/MethodHandle" ∧ yX6_houseWord.cls ≠ "java/lang/invoke/VarHandle" ∧ (parseMethodDescriptor yX6_houseWord.desc).map (fun d => d.parameters.length) = some 0 := by decide +kernel
theorem hdN_X6_houseWord : yX6_houseWord.cls ≠ "java/lang/invoke/MethodHandle" ∧ yX6_houseWord.cls ≠ "java/lang/invoke/VarHandle" ∧ (parseMethodDescriptor yX6_houseWord.desc).map (fun d => d.parameters.length) = some 0 := hdV_X6_houseWord.2
abbrev rm_X6_wordOf : Room := { frames := 2, cells := 0, slots := 0, locals := 44 }
theorem hdV_X6_wordOf : yX6_wordOf.cls = RX6 ∧ yX6_wordOf.cls ≠ "java/lang/invoke/MethodHandle" ∧ yX6_wordOf.cls ≠ "java/lang/invoke/VarHandle" ∧ (parseMethodDescriptor yX6_wordOf.desc).map (fun d => d.parameters.length) = some 0 := by decide +kernel
theorem hdN_X6_wordOf : yX6_wordOf.cls ≠ "java/lang/invoke/MethodHandle" ∧ yX6_wordOf.cls ≠ "java/lang/invoke/VarHandle" ∧ (parseMethodDescriptor yX6_wordOf.desc).map (fun d => d.parameters.length) = some 0 := hdV_X6_wordOf.2
abbrev rm_X6_isDeedLine : Room := { frames := 1, cells := 0, slots := 0, locals := 25 }
theorem hdS_X6_isDeedLine : yX6_isDeedLine.cls ≠ "java/lang/invoke/MethodHandle" ∧ yX6_isDeedLine.cls ≠ "java/lang/invoke/VarHandle" ∧ (parseMethodDescriptor yX6_isDeedLine.desc).map (fun d => d.parameters.length) = some 1 := by decide +kernel
abbrev rm_X6_reads : Room := { frames := 2, cells := 0, slots := 0, locals := 40 }
theorem hdV_X6_reads : yX6_reads.cls = RX6 ∧ yX6_reads.cls ≠ "java/lang/invoke/MethodHandle" ∧ yX6_reads.cls ≠ "java/lang/invoke/VarHandle" ∧ (parseMethodDescriptor yX6_reads.desc).map (fun d => d.parameters.length) = some 4 := by decide +kernel
theorem hdN_X6_reads : yX6_reads.cls ≠ "java/lang/invoke/MethodHandle" ∧ yX6_reads.cls ≠ "java/lang/invoke/VarHandle" ∧ (parseMethodDescriptor yX6_reads.desc).map (fun d => d.parameters.length) = some 4 := hdV_X6_reads.2
abbrev rm_X6_readsRest : Room := { frames := 3, cells := 0, slots := 0, locals := 66 }
theorem hdV_X6_readsRest : yX6_readsRest.cls = RX6 ∧ yX6_readsRest.cls ≠ "java/lang/invoke/MethodHandle" ∧ yX6_readsRest.cls ≠ "java/lang/invoke/VarHandle" ∧ (parseMethodDescriptor yX6_readsRest.desc).map (fun d => d.parameters.length) = some 1 := by decide +kernel
theorem hdN_X6_readsRest : yX6_readsRest.cls ≠ "java/lang/invoke/MethodHandle" ∧ yX6_readsRest.cls ≠ "java/lang/invoke/VarHandle" ∧ (parseMethodDescriptor yX6_readsRest.desc).map (fun d => d.parameters.length) = some 1 := hdV_X6_readsRest.2
abbrev rm_X6_readsLine : Room := { frames := 4, cells := 0, slots := 0, locals := 89 }
theorem hdV_X6_readsLine : yX6_readsLine.cls = RX6 ∧ yX6_readsLine.cls ≠ "java/lang/invoke/MethodHandle" ∧ yX6_readsLine.cls ≠ "java/lang/invoke/VarHandle" ∧ (parseMethodDescriptor yX6_readsLine.desc).map (fun d => d.parameters.length) = some 0 := by decide +kernel
theorem hdN_X6_readsLine : yX6_readsLine.cls ≠ "java/lang/invoke/MethodHandle" ∧ yX6_readsLine.cls ≠ "java/lang/invoke/VarHandle" ∧ (parseMethodDescriptor yX6_readsLine.desc).map (fun d => d.parameters.length) = some 0 := hdV_X6_readsLine.2
abbrev rm_X6_fault : Room := { frames := 5, cells := 0, slots := 0, locals := 110 }
theorem hdV_X6_fault : yX6_fault.cls = RX6 ∧ yX6_fault.cls ≠ "java/lang/invoke/MethodHandle" ∧ yX6_fault.cls ≠ "java/lang/invoke/VarHandle" ∧ (parseMethodDescriptor yX6_fault.desc).map (fun d => d.parameters.length) = some 0 := by decide +kernel
theorem hdN_X6_fault : yX6_fault.cls ≠ "java/lang/invoke/MethodHandle" ∧ yX6_fault.cls ≠ "java/lang/invoke/VarHandle" ∧ (parseMethodDescriptor yX6_fault.desc).map (fun d => d.parameters.length) = some 0 := hdV_X6_fault.2
abbrev rm_X6_clear : Room := { frames := 0, cells := 0, slots := 0, locals := 0 }
theorem hdV_X6_clear : yX6_clear.cls = RX6 ∧ yX6_clear.cls ≠ "java/lang/invoke/MethodHandle" ∧ yX6_clear.cls ≠ "java/lang/invoke/VarHandle" ∧ (parseMethodDescriptor yX6_clear.desc).map (fun d => d.parameters.length) = some 1 := by decide +kernel
theorem hdN_X6_clear : yX6_clear.cls ≠ "java/lang/invoke/MethodHandle" ∧ yX6_clear.cls ≠ "java/lang/invoke/VarHandle" ∧ (parseMethodDescriptor yX6_clear.desc).map (fun d => d.parameters.length) = some 1 := hdV_X6_clear.2
abbrev rm_X6_bits : Room := { frames := 0, cells := 0, slots := 0, locals := 0 }
theorem hdS_X6_bits : yX6_bits.cls ≠ "java/lang/invoke/MethodHandle" ∧ yX6_bits.cls ≠ "java/lang/invoke/VarHandle" ∧ (parseMethodDescriptor yX6_bits.desc).map (fun d => d.parameters.length) = some 1 := by decide +kernel
abbrev rm_X6_lacks : Room := { frames := 1, cells := 0, slots := 0, locals := 22 }
theorem hdV_X6_lacks : yX6_lacks.cls = RX6 ∧ yX6_lacks.cls ≠ "java/lang/invoke/MethodHandle" ∧ yX6_lacks.cls ≠ "java/lang/invoke/VarHandle" ∧ (parseMethodDescriptor yX6_lacks.desc).map (fun d => d.parameters.length) = some 2 := by decide +kernel
theorem hdN_X6_lacks : yX6_lacks.cls ≠ "java/lang/invoke/MethodHandle" ∧ yX6_lacks.cls ≠ "java/lang/invoke/VarHandle" ∧ (parseMethodDescriptor yX6_lacks.desc).map (fun d => d.parameters.length) = some 2 := hdV_X6_lacks.2
abbrev rm_X6_canElse : Room := { frames := 2, cells := 0, slots := 0, locals := 46 }
theorem hdV_X6_canElse : yX6_canElse.cls = RX6 ∧ yX6_canElse.cls ≠ "java/lang/invoke/MethodHandle" ∧ yX6_canElse.cls ≠ "java/lang/invoke/VarHandle" ∧ (parseMethodDescriptor yX6_canElse.desc).map (fun d => d.parameters.length) = some 2 := by decide +kernel
theorem hdN_X6_canElse : yX6_canElse.cls ≠ "java/lang/invoke/MethodHandle" ∧ yX6_canElse.cls ≠ "java/lang/invoke/VarHandle" ∧ (parseMethodDescriptor yX6_canElse.desc).map (fun d => d.parameters.length) = some 2 := hdV_X6_canElse.2
abbrev rm_X6_has : Room := { frames := 0, cells := 0, slots := 0, locals := 0 }
theorem hdS_X6_has : yX6_has.cls ≠ "java/lang/invoke/MethodHandle" ∧ yX6_has.cls ≠ "java/lang/invoke/VarHandle" ∧ (parseMethodDescriptor yX6_has.desc).map (fun d => d.parameters.length) = some 2 := by decide +kernel
abbrev rm_X6_canBy : Room := { frames := 3, cells := 0, slots := 0, locals := 69 }
theorem hdV_X6_canBy : yX6_canBy.cls = RX6 ∧ yX6_canBy.cls ≠ "java/lang/invoke/MethodHandle" ∧ yX6_canBy.cls ≠ "java/lang/invoke/VarHandle" ∧ (parseMethodDescriptor yX6_canBy.desc).map (fun d => d.parameters.length) = some 3 := by decide +kernel
theorem hdN_X6_canBy : yX6_canBy.cls ≠ "java/lang/invoke/MethodHandle" ∧ yX6_canBy.cls ≠ "java/lang/invoke/VarHandle" ∧ (parseMethodDescriptor yX6_canBy.desc).map (fun d => d.parameters.length) = some 3 := hdV_X6_canBy.2
abbrev rm_X6_can : Room := { frames := 4, cells := 0, slots := 0, locals := 92 }
theorem hdV_X6_can : yX6_can.cls = RX6 ∧ yX6_can.cls ≠ "java/lang/invoke/MethodHandle" ∧ yX6_can.cls ≠ "java/lang/invoke/VarHandle" ∧ (parseMethodDescriptor yX6_can.desc).map (fun d => d.parameters.length) = some 2 := by decide +kernel
theorem hdN_X6_can : yX6_can.cls ≠ "java/lang/invoke/MethodHandle" ∧ yX6_can.cls ≠ "java/lang/invoke/VarHandle" ∧ (parseMethodDescriptor yX6_can.desc).map (fun d => d.parameters.length) = some 2 := hdV_X6_can.2
abbrev rm_X6_tellDeed : Room := { frames := 0, cells := 0, slots := 0, locals := 0 }
theorem hdV_X6_tellDeed : yX6_tellDeed.cls = RX6 ∧ yX6_tellDeed.cls ≠ "java/lang/invoke/MethodHandle" ∧ yX6_tellDeed.cls ≠ "java/lang/invoke/VarHandle" ∧ (parseMethodDescriptor yX6_tellDeed.desc).map (fun d => d.parameters.length) = some 1 := by decide +kernel
theorem hdN_X6_tellDeed : yX6_tellDeed.cls ≠ "java/lang/invoke/MethodHandle" ∧ yX6_tellDeed.cls ≠ "java/lang/invoke/VarHandle" ∧ (parseMethodDescriptor yX6_tellDeed.desc).map (fun d => d.parameters.length) = some 1 := hdV_X6_tellDeed.2
abbrev rm_X6_tell : Room := { frames := 5, cells := 0, slots := 0, locals := 114 }
theorem hdV_X6_tell : yX6_tell.cls = RX6 ∧ yX6_tell.cls ≠ "java/lang/invoke/MethodHandle" ∧ yX6_tell.cls ≠ "java/lang/invoke/VarHandle" ∧ (parseMethodDescriptor yX6_tell.desc).map (fun d => d.parameters.length) = some 1 := by decide +kernel
theorem hdN_X6_tell : yX6_tell.cls ≠ "java/lang/invoke/MethodHandle" ∧ yX6_tell.cls ≠ "java/lang/invoke/VarHandle" ∧ (parseMethodDescriptor yX6_tell.desc).map (fun d => d.parameters.length) = some 1 := hdV_X6_tell.2
abbrev rm_X6_street : Room := { frames := 6, cells := 0, slots := 0, locals := 137 }
theorem hdV_X6_street : yX6_street.cls = RX6 ∧ yX6_street.cls ≠ "java/lang/invoke/MethodHandle" ∧ yX6_street.cls ≠ "java/lang/invoke/VarHandle" ∧ (parseMethodDescriptor yX6_street.desc).map (fun d => d.parameters.length) = some 0 := by decide +kernel
theorem hdN_X6_street : yX6_street.cls ≠ "java/lang/invoke/MethodHandle" ∧ yX6_street.cls ≠ "java/lang/invoke/VarHandle" ∧ (parseMethodDescriptor yX6_street.desc).map (fun d => d.parameters.length) = some 0 := hdV_X6_street.2
abbrev rm_X6_isHouse : Room := { frames := 1, cells := 0, slots := 0, locals := 25 }
theorem hdV_X6_isHouse : yX6_isHouse.cls = RX6 ∧ yX6_isHouse.cls ≠ "java/lang/invoke/MethodHandle" ∧ yX6_isHouse.cls ≠ "java/lang/invoke/VarHandle" ∧ (parseMethodDescriptor yX6_isHouse.desc).map (fun d => d.parameters.length) = some 1 := by decide +kernel
theorem hdN_X6_isHouse : yX6_isHouse.cls ≠ "java/lang/invoke/MethodHandle" ∧ yX6_isHouse.cls ≠ "java/lang/invoke/VarHandle" ∧ (parseMethodDescriptor yX6_isHouse.desc).map (fun d => d.parameters.length) = some 1 := hdV_X6_isHouse.2
abbrev rm_X6_house : Room := { frames := 2, cells := 0, slots := 0, locals := 46 }
theorem hdV_X6_house : yX6_house.cls = RX6 ∧ yX6_house.cls ≠ "java/lang/invoke/MethodHandle" ∧ yX6_house.cls ≠ "java/lang/invoke/VarHandle" ∧ (parseMethodDescriptor yX6_house.desc).map (fun d => d.parameters.length) = some 2 := by decide +kernel
theorem hdN_X6_house : yX6_house.cls ≠ "java/lang/invoke/MethodHandle" ∧ yX6_house.cls ≠ "java/lang/invoke/VarHandle" ∧ (parseMethodDescriptor yX6_house.desc).map (fun d => d.parameters.length) = some 2 := hdV_X6_house.2
abbrev rm_X6_isDeed : Room := { frames := 1, cells := 0, slots := 0, locals := 25 }
theorem hdV_X6_isDeed : yX6_isDeed.cls = RX6 ∧ yX6_isDeed.cls ≠ "java/lang/invoke/MethodHandle" ∧ yX6_isDeed.cls ≠ "java/lang/invoke/VarHandle" ∧ (parseMethodDescriptor yX6_isDeed.desc).map (fun d => d.parameters.length) = some 1 := by decide +kernel
theorem hdN_X6_isDeed : yX6_isDeed.cls ≠ "java/lang/invoke/MethodHandle" ∧ yX6_isDeed.cls ≠ "java/lang/invoke/VarHandle" ∧ (parseMethodDescriptor yX6_isDeed.desc).map (fun d => d.parameters.length) = some 1 := hdV_X6_isDeed.2
abbrev rm_X6_deed : Room := { frames := 2, cells := 0, slots := 0, locals := 46 }
theorem hdV_X6_deed : yX6_deed.cls = RX6 ∧ yX6_deed.cls ≠ "java/lang/invoke/MethodHandle" ∧ yX6_deed.cls ≠ "java/lang/invoke/VarHandle" ∧ (parseMethodDescriptor yX6_deed.desc).map (fun d => d.parameters.length) = some 2 := by decide +kernel
theorem hdN_X6_deed : yX6_deed.cls ≠ "java/lang/invoke/MethodHandle" ∧ yX6_deed.cls ≠ "java/lang/invoke/VarHandle" ∧ (parseMethodDescriptor yX6_deed.desc).map (fun d => d.parameters.length) = some 2 := hdV_X6_deed.2
abbrev rm_X6_as : Room := { frames := 5, cells := 0, slots := 0, locals := 114 }
theorem hdV_X6_as : yX6_as.cls = RX6 ∧ yX6_as.cls ≠ "java/lang/invoke/MethodHandle" ∧ yX6_as.cls ≠ "java/lang/invoke/VarHandle" ∧ (parseMethodDescriptor yX6_as.desc).map (fun d => d.parameters.length) = some 2 := by decide +kernel
theorem hdN_X6_as : yX6_as.cls ≠ "java/lang/invoke/MethodHandle" ∧ yX6_as.cls ≠ "java/lang/invoke/VarHandle" ∧ (parseMethodDescriptor yX6_as.desc).map (fun d => d.parameters.length) = some 2 := hdV_X6_as.2
abbrev rm_X6_set : Room := { frames := 5, cells := 0, slots := 0, locals := 114 }
theorem hdV_X6_set : yX6_set.cls = RX6 ∧ yX6_set.cls ≠ "java/lang/invoke/MethodHandle" ∧ yX6_set.cls ≠ "java/lang/invoke/VarHandle" ∧ (parseMethodDescriptor yX6_set.desc).map (fun d => d.parameters.length) = some 2 := by decide +kernel
theorem hdN_X6_set : yX6_set.cls ≠ "java/lang/invoke/MethodHandle" ∧ yX6_set.cls ≠ "java/lang/invoke/VarHandle" ∧ (parseMethodDescriptor yX6_set.desc).map (fun d => d.parameters.length) = some 2 := hdV_X6_set.2
abbrev rm_X6_forbiddenNow : Room := { frames := 0, cells := 0, slots := 0, locals := 0 }
theorem hdV_X6_forbiddenNow : yX6_forbiddenNow.cls = RX6 ∧ yX6_forbiddenNow.cls ≠ "java/lang/invoke/MethodHandle" ∧ yX6_forbiddenNow.cls ≠ "java/lang/invoke/VarHandle" ∧ (parseMethodDescriptor yX6_forbiddenNow.desc).map (fun d => d.parameters.length) = some 0 := by decide +kernel
theorem hdN_X6_forbiddenNow : yX6_forbiddenNow.cls ≠ "java/lang/invoke/MethodHandle" ∧ yX6_forbiddenNow.cls ≠ "java/lang/invoke/VarHandle" ∧ (parseMethodDescriptor yX6_forbiddenNow.desc).map (fun d => d.parameters.length) = some 0 := hdV_X6_forbiddenNow.2
abbrev rm_X6_layNext : Room := { frames := 4, cells := 0, slots := 0, locals := 92 }
theorem hdV_X6_layNext : yX6_layNext.cls = RX6 ∧ yX6_layNext.cls ≠ "java/lang/invoke/MethodHandle" ∧ yX6_layNext.cls ≠ "java/lang/invoke/VarHandle" ∧ (parseMethodDescriptor yX6_layNext.desc).map (fun d => d.parameters.length) = some 2 := by decide +kernel
theorem hdN_X6_layNext : yX6_layNext.cls ≠ "java/lang/invoke/MethodHandle" ∧ yX6_layNext.cls ≠ "java/lang/invoke/VarHandle" ∧ (parseMethodDescriptor yX6_layNext.desc).map (fun d => d.parameters.length) = some 2 := hdV_X6_layNext.2
abbrev rm_X6_layDays : Room := { frames := 5, cells := 0, slots := 0, locals := 116 }
theorem hdV_X6_layDays : yX6_layDays.cls = RX6 ∧ yX6_layDays.cls ≠ "java/lang/invoke/MethodHandle" ∧ yX6_layDays.cls ≠ "java/lang/invoke/VarHandle" ∧ (parseMethodDescriptor yX6_layDays.desc).map (fun d => d.parameters.length) = some 2 := by decide +kernel
theorem hdN_X6_layDays : yX6_layDays.cls ≠ "java/lang/invoke/MethodHandle" ∧ yX6_layDays.cls ≠ "java/lang/invoke/VarHandle" ∧ (parseMethodDescriptor yX6_layDays.desc).map (fun d => d.parameters.length) = some 2 := hdV_X6_layDays.2
abbrev rm_X6_go : Room := { frames := 6, cells := 0, slots := 0, locals := 139 }
theorem hdV_X6_go : yX6_go.cls = RX6 ∧ yX6_go.cls ≠ "java/lang/invoke/MethodHandle" ∧ yX6_go.cls ≠ "java/lang/invoke/VarHandle" ∧ (parseMethodDescriptor yX6_go.desc).map (fun d => d.parameters.length) = some 1 := by decide +kernel
theorem hdN_X6_go : yX6_go.cls ≠ "java/lang/invoke/MethodHandle" ∧ yX6_go.cls ≠ "java/lang/invoke/VarHandle" ∧ (parseMethodDescriptor yX6_go.desc).map (fun d => d.parameters.length) = some 1 := hdV_X6_go.2
abbrev rm_X6_isTime : Room := { frames := 1, cells := 0, slots := 0, locals := 25 }
theorem hdS_X6_isTime : yX6_isTime.cls ≠ "java/lang/invoke/MethodHandle" ∧ yX6_isTime.cls ≠ "java/lang/invoke/VarHandle" ∧ (parseMethodDescriptor yX6_isTime.desc).map (fun d => d.parameters.length) = some 1 := by decide +kernel
abbrev rm_X6_later : Room := { frames := 6, cells := 0, slots := 0, locals := 139 }
theorem hdV_X6_later : yX6_later.cls = RX6 ∧ yX6_later.cls ≠ "java/lang/invoke/MethodHandle" ∧ yX6_later.cls ≠ "java/lang/invoke/VarHandle" ∧ (parseMethodDescriptor yX6_later.desc).map (fun d => d.parameters.length) = some 2 := by decide +kernel
theorem hdN_X6_later : yX6_later.cls ≠ "java/lang/invoke/MethodHandle" ∧ yX6_later.cls ≠ "java/lang/invoke/VarHandle" ∧ (parseMethodDescriptor yX6_later.desc).map (fun d => d.parameters.length) = some 2 := hdV_X6_later.2
abbrev rm_X6_areAlike : Room := { frames := 0, cells := 0, slots := 0, locals := 0 }
theorem hdV_X6_areAlike : yX6_areAlike.cls = RX6 ∧ yX6_areAlike.cls ≠ "java/lang/invoke/MethodHandle" ∧ yX6_areAlike.cls ≠ "java/lang/invoke/VarHandle" ∧ (parseMethodDescriptor yX6_areAlike.desc).map (fun d => d.parameters.length) = some 2 := by decide +kernel
theorem hdN_X6_areAlike : yX6_areAlike.cls ≠ "java/lang/invoke/MethodHandle" ∧ yX6_areAlike.cls ≠ "java/lang/invoke/VarHandle" ∧ (parseMethodDescriptor yX6_areAlike.desc).map (fun d => d.parameters.length) = some 2 := hdV_X6_areAlike.2
abbrev rm_X6_again : Room := { frames := 6, cells := 0, slots := 0, locals := 139 }
theorem hdV_X6_again : yX6_again.cls = RX6 ∧ yX6_again.cls ≠ "java/lang/invoke/MethodHandle" ∧ yX6_again.cls ≠ "java/lang/invoke/VarHandle" ∧ (parseMethodDescriptor yX6_again.desc).map (fun d => d.parameters.length) = some 1 := by decide +kernel
theorem hdN_X6_again : yX6_again.cls ≠ "java/lang/invoke/MethodHandle" ∧ yX6_again.cls ≠ "java/lang/invoke/VarHandle" ∧ (parseMethodDescriptor yX6_again.desc).map (fun d => d.parameters.length) = some 1 := hdV_X6_again.2
abbrev rm_X6_wayEnd : Room := { frames := 0, cells := 0, slots := 0, locals := 0 }
theorem hdV_X6_wayEnd : yX6_wayEnd.cls = RX6 ∧ yX6_wayEnd.cls ≠ "java/lang/invoke/MethodHandle" ∧ yX6_wayEnd.cls ≠ "java/lang/invoke/VarHandle" ∧ (parseMethodDescriptor yX6_wayEnd.desc).map (fun d => d.parameters.length) = some 2 := by decide +kernel
theorem hdN_X6_wayEnd : yX6_wayEnd.cls ≠ "java/lang/invoke/MethodHandle" ∧ yX6_wayEnd.cls ≠ "java/lang/invoke/VarHandle" ∧ (parseMethodDescriptor yX6_wayEnd.desc).map (fun d => d.parameters.length) = some 2 := hdV_X6_wayEnd.2
abbrev rm_X6_canAll : Room := { frames := 5, cells := 0, slots := 0, locals := 114 }
theorem hdV_X6_canAll : yX6_canAll.cls = RX6 ∧ yX6_canAll.cls ≠ "java/lang/invoke/MethodHandle" ∧ yX6_canAll.cls ≠ "java/lang/invoke/VarHandle" ∧ (parseMethodDescriptor yX6_canAll.desc).map (fun d => d.parameters.length) = some 3 := by decide +kernel
theorem hdN_X6_canAll : yX6_canAll.cls ≠ "java/lang/invoke/MethodHandle" ∧ yX6_canAll.cls ≠ "java/lang/invoke/VarHandle" ∧ (parseMethodDescriptor yX6_canAll.desc).map (fun d => d.parameters.length) = some 3 := hdV_X6_canAll.2
abbrev rm_X6_firstOf : Room := { frames := 6, cells := 0, slots := 0, locals := 140 }
theorem hdV_X6_firstOf : yX6_firstOf.cls = RX6 ∧ yX6_firstOf.cls ≠ "java/lang/invoke/MethodHandle" ∧ yX6_firstOf.cls ≠ "java/lang/invoke/VarHandle" ∧ (parseMethodDescriptor yX6_firstOf.desc).map (fun d => d.parameters.length) = some 3 := by decide +kernel
theorem hdN_X6_firstOf : yX6_firstOf.cls ≠ "java/lang/invoke/MethodHandle" ∧ yX6_firstOf.cls ≠ "java/lang/invoke/VarHandle" ∧ (parseMethodDescriptor yX6_firstOf.desc).map (fun d => d.parameters.length) = some 3 := hdV_X6_firstOf.2
abbrev rm_X6_first : Room := { frames := 7, cells := 0, slots := 0, locals := 164 }
theorem hdV_X6_first : yX6_first.cls = RX6 ∧ yX6_first.cls ≠ "java/lang/invoke/MethodHandle" ∧ yX6_first.cls ≠ "java/lang/invoke/VarHandle" ∧ (parseMethodDescriptor yX6_first.desc).map (fun d => d.parameters.length) = some 3 := by decide +kernel
theorem hdN_X6_first : yX6_first.cls ≠ "java/lang/invoke/MethodHandle" ∧ yX6_first.cls ≠ "java/lang/invoke/VarHandle" ∧ (parseMethodDescriptor yX6_first.desc).map (fun d => d.parameters.length) = some 3 := hdV_X6_first.2
abbrev rm_X6_lack : Room := { frames := 2, cells := 0, slots := 0, locals := 46 }
theorem hdV_X6_lack : yX6_lack.cls = RX6 ∧ yX6_lack.cls ≠ "java/lang/invoke/MethodHandle" ∧ yX6_lack.cls ≠ "java/lang/invoke/VarHandle" ∧ (parseMethodDescriptor yX6_lack.desc).map (fun d => d.parameters.length) = some 3 := by decide +kernel
theorem hdN_X6_lack : yX6_lack.cls ≠ "java/lang/invoke/MethodHandle" ∧ yX6_lack.cls ≠ "java/lang/invoke/VarHandle" ∧ (parseMethodDescriptor yX6_lack.desc).map (fun d => d.parameters.length) = some 3 := hdV_X6_lack.2
abbrev rm_X6_wish : Room := { frames := 2, cells := 0, slots := 0, locals := 46 }
theorem hdV_X6_wish : yX6_wish.cls = RX6 ∧ yX6_wish.cls ≠ "java/lang/invoke/MethodHandle" ∧ yX6_wish.cls ≠ "java/lang/invoke/VarHandle" ∧ (parseMethodDescriptor yX6_wish.desc).map (fun d => d.parameters.length) = some 3 := by decide +kernel
theorem hdN_X6_wish : yX6_wish.cls ≠ "java/lang/invoke/MethodHandle" ∧ yX6_wish.cls ≠ "java/lang/invoke/VarHandle" ∧ (parseMethodDescriptor yX6_wish.desc).map (fun d => d.parameters.length) = some 3 := hdV_X6_wish.2
abbrev rm_X6_drop : Room := { frames := 0, cells := 0, slots := 0, locals := 0 }
theorem hdV_X6_drop : yX6_drop.cls = RX6 ∧ yX6_drop.cls ≠ "java/lang/invoke/MethodHandle" ∧ yX6_drop.cls ≠ "java/lang/invoke/VarHandle" ∧ (parseMethodDescriptor yX6_drop.desc).map (fun d => d.parameters.length) = some 0 := by decide +kernel
theorem hdN_X6_drop : yX6_drop.cls ≠ "java/lang/invoke/MethodHandle" ∧ yX6_drop.cls ≠ "java/lang/invoke/VarHandle" ∧ (parseMethodDescriptor yX6_drop.desc).map (fun d => d.parameters.length) = some 0 := hdV_X6_drop.2
abbrev rm_X6_layMays : Room := { frames := 5, cells := 0, slots := 0, locals := 114 }
theorem hdV_X6_layMays : yX6_layMays.cls = RX6 ∧ yX6_layMays.cls ≠ "java/lang/invoke/MethodHandle" ∧ yX6_layMays.cls ≠ "java/lang/invoke/VarHandle" ∧ (parseMethodDescriptor yX6_layMays.desc).map (fun d => d.parameters.length) = some 0 := by decide +kernel
theorem hdN_X6_layMays : yX6_layMays.cls ≠ "java/lang/invoke/MethodHandle" ∧ yX6_layMays.cls ≠ "java/lang/invoke/VarHandle" ∧ (parseMethodDescriptor yX6_layMays.desc).map (fun d => d.parameters.length) = some 0 := hdV_X6_layMays.2
abbrev rm_X6_none : Room := { frames := 0, cells := 0, slots := 0, locals := 0 }
theorem hdV_X6_none : yX6_none.cls = RX6 ∧ yX6_none.cls ≠ "java/lang/invoke/MethodHandle" ∧ yX6_none.cls ≠ "java/lang/invoke/VarHandle" ∧ (parseMethodDescriptor yX6_none.desc).map (fun d => d.parameters.length) = some 0 := by decide +kernel
theorem hdN_X6_none : yX6_none.cls ≠ "java/lang/invoke/MethodHandle" ∧ yX6_none.cls ≠ "java/lang/invoke/VarHandle" ∧ (parseMethodDescriptor yX6_none.desc).map (fun d => d.parameters.length) = some 0 := hdV_X6_none.2
abbrev rm_X6_bind : Room := { frames := 7, cells := 0, slots := 0, locals := 164 }
theorem hdV_X6_bind : yX6_bind.cls = RX6 ∧ yX6_bind.cls ≠ "java/lang/invoke/MethodHandle" ∧ yX6_bind.cls ≠ "java/lang/invoke/VarHandle" ∧ (parseMethodDescriptor yX6_bind.desc).map (fun d => d.parameters.length) = some 3 := by decide +kernel
theorem hdN_X6_bind : yX6_bind.cls ≠ "java/lang/invoke/MethodHandle" ∧ yX6_bind.cls ≠ "java/lang/invoke/VarHandle" ∧ (parseMethodDescriptor yX6_bind.desc).map (fun d => d.parameters.length) = some 3 := hdV_X6_bind.2
abbrev rm_X6_rows : Room := { frames := 1, cells := 0, slots := 0, locals := 22 }
theorem hdV_X6_rows : yX6_rows.cls = RX6 ∧ yX6_rows.cls ≠ "java/lang/invoke/MethodHandle" ∧ yX6_rows.cls ≠ "java/lang/invoke/VarHandle" ∧ (parseMethodDescriptor yX6_rows.desc).map (fun d => d.parameters.length) = some 0 := by decide +kernel
theorem hdN_X6_rows : yX6_rows.cls ≠ "java/lang/invoke/MethodHandle" ∧ yX6_rows.cls ≠ "java/lang/invoke/VarHandle" ∧ (parseMethodDescriptor yX6_rows.desc).map (fun d => d.parameters.length) = some 0 := hdV_X6_rows.2
abbrev rm_X6_ways : Room := { frames := 8, cells := 0, slots := 0, locals := 188 }
theorem hdV_X6_ways : yX6_ways.cls = RX6 ∧ yX6_ways.cls ≠ "java/lang/invoke/MethodHandle" ∧ yX6_ways.cls ≠ "java/lang/invoke/VarHandle" ∧ (parseMethodDescriptor yX6_ways.desc).map (fun d => d.parameters.length) = some 0 := by decide +kernel
theorem hdN_X6_ways : yX6_ways.cls ≠ "java/lang/invoke/MethodHandle" ∧ yX6_ways.cls ≠ "java/lang/invoke/VarHandle" ∧ (parseMethodDescriptor yX6_ways.desc).map (fun d => d.parameters.length) = some 0 := hdV_X6_ways.2
abbrev rm_X6_isDays : Room := { frames := 1, cells := 0, slots := 0, locals := 25 }
theorem hdS_X6_isDays : yX6_isDays.cls ≠ "java/lang/invoke/MethodHandle" ∧ yX6_isDays.cls ≠ "java/lang/invoke/VarHandle" ∧ (parseMethodDescriptor yX6_isDays.desc).map (fun d => d.parameters.length) = some 1 := by decide +kernel
abbrev rm_X6_laySums : Room := { frames := 0, cells := 0, slots := 0, locals := 0 }
theorem hdV_X6_laySums : yX6_laySums.cls = RX6 ∧ yX6_laySums.cls ≠ "java/lang/invoke/MethodHandle" ∧ yX6_laySums.cls ≠ "java/lang/invoke/VarHandle" ∧ (parseMethodDescriptor yX6_laySums.desc).map (fun d => d.parameters.length) = some 1 := by decide +kernel
theorem hdN_X6_laySums : yX6_laySums.cls ≠ "java/lang/invoke/MethodHandle" ∧ yX6_laySums.cls ≠ "java/lang/invoke/VarHandle" ∧ (parseMethodDescriptor yX6_laySums.desc).map (fun d => d.parameters.length) = some 1 := hdV_X6_laySums.2
abbrev rm_X6_sum : Room := { frames := 6, cells := 0, slots := 0, locals := 139 }
theorem hdV_X6_sum : yX6_sum.cls = RX6 ∧ yX6_sum.cls ≠ "java/lang/invoke/MethodHandle" ∧ yX6_sum.cls ≠ "java/lang/invoke/VarHandle" ∧ (parseMethodDescriptor yX6_sum.desc).map (fun d => d.parameters.length) = some 2 := by decide +kernel
theorem hdN_X6_sum : yX6_sum.cls ≠ "java/lang/invoke/MethodHandle" ∧ yX6_sum.cls ≠ "java/lang/invoke/VarHandle" ∧ (parseMethodDescriptor yX6_sum.desc).map (fun d => d.parameters.length) = some 2 := hdV_X6_sum.2
abbrev rm_X6_council : Room := { frames := 6, cells := 0, slots := 0, locals := 139 }
theorem hdV_X6_council : yX6_council.cls = RX6 ∧ yX6_council.cls ≠ "java/lang/invoke/MethodHandle" ∧ yX6_council.cls ≠ "java/lang/invoke/VarHandle" ∧ (parseMethodDescriptor yX6_council.desc).map (fun d => d.parameters.length) = some 3 := by decide +kernel
theorem hdN_X6_council : yX6_council.cls ≠ "java/lang/invoke/MethodHandle" ∧ yX6_council.cls ≠ "java/lang/invoke/VarHandle" ∧ (parseMethodDescriptor yX6_council.desc).map (fun d => d.parameters.length) = some 3 := hdV_X6_council.2
abbrev rm_X6_idle : Room := { frames := 6, cells := 0, slots := 0, locals := 139 }
theorem hdV_X6_idle : yX6_idle.cls = RX6 ∧ yX6_idle.cls ≠ "java/lang/invoke/MethodHandle" ∧ yX6_idle.cls ≠ "java/lang/invoke/VarHandle" ∧ (parseMethodDescriptor yX6_idle.desc).map (fun d => d.parameters.length) = some 3 := by decide +kernel
theorem hdN_X6_idle : yX6_idle.cls ≠ "java/lang/invoke/MethodHandle" ∧ yX6_idle.cls ≠ "java/lang/invoke/VarHandle" ∧ (parseMethodDescriptor yX6_idle.desc).map (fun d => d.parameters.length) = some 3 := hdV_X6_idle.2
abbrev rm_X6_divisor : Room := { frames := 0, cells := 0, slots := 0, locals := 0 }
theorem hdS_X6_divisor : yX6_divisor.cls ≠ "java/lang/invoke/MethodHandle" ∧ yX6_divisor.cls ≠ "java/lang/invoke/VarHandle" ∧ (parseMethodDescriptor yX6_divisor.desc).map (fun d => d.parameters.length) = some 2 := by decide +kernel
abbrev rm_X6_odds : Room := { frames := 6, cells := 0, slots := 0, locals := 139 }
theorem hdV_X6_odds : yX6_odds.cls = RX6 ∧ yX6_odds.cls ≠ "java/lang/invoke/MethodHandle" ∧ yX6_odds.cls ≠ "java/lang/invoke/VarHandle" ∧ (parseMethodDescriptor yX6_odds.desc).map (fun d => d.parameters.length) = some 4 := by decide +kernel
theorem hdN_X6_odds : yX6_odds.cls ≠ "java/lang/invoke/MethodHandle" ∧ yX6_odds.cls ≠ "java/lang/invoke/VarHandle" ∧ (parseMethodDescriptor yX6_odds.desc).map (fun d => d.parameters.length) = some 4 := hdV_X6_odds.2
abbrev rm_X6_leastOf : Room := { frames := 1, cells := 0, slots := 0, locals := 21 }
theorem hdS_X6_leastOf : yX6_leastOf.cls ≠ "java/lang/invoke/MethodHandle" ∧ yX6_leastOf.cls ≠ "java/lang/invoke/VarHandle" ∧ (parseMethodDescriptor yX6_leastOf.desc).map (fun d => d.parameters.length) = some 1 := by decide +kernel
abbrev rm_X6_withOf : Room := { frames := 1, cells := 0, slots := 0, locals := 22 }
theorem hdV_X6_withOf : yX6_withOf.cls = RX6 ∧ yX6_withOf.cls ≠ "java/lang/invoke/MethodHandle" ∧ yX6_withOf.cls ≠ "java/lang/invoke/VarHandle" ∧ (parseMethodDescriptor yX6_withOf.desc).map (fun d => d.parameters.length) = some 3 := by decide +kernel
theorem hdN_X6_withOf : yX6_withOf.cls ≠ "java/lang/invoke/MethodHandle" ∧ yX6_withOf.cls ≠ "java/lang/invoke/VarHandle" ∧ (parseMethodDescriptor yX6_withOf.desc).map (fun d => d.parameters.length) = some 3 := hdV_X6_withOf.2
abbrev rm_X6_layBests : Room := { frames := 2, cells := 0, slots := 0, locals := 47 }
theorem hdV_X6_layBests : yX6_layBests.cls = RX6 ∧ yX6_layBests.cls ≠ "java/lang/invoke/MethodHandle" ∧ yX6_layBests.cls ≠ "java/lang/invoke/VarHandle" ∧ (parseMethodDescriptor yX6_layBests.desc).map (fun d => d.parameters.length) = some 0 := by decide +kernel
theorem hdN_X6_layBests : yX6_layBests.cls ≠ "java/lang/invoke/MethodHandle" ∧ yX6_layBests.cls ≠ "java/lang/invoke/VarHandle" ∧ (parseMethodDescriptor yX6_layBests.desc).map (fun d => d.parameters.length) = some 0 := hdV_X6_layBests.2
abbrev rm_X6_partnerOf : Room := { frames := 2, cells := 0, slots := 0, locals := 47 }
theorem hdV_X6_partnerOf : yX6_partnerOf.cls = RX6 ∧ yX6_partnerOf.cls ≠ "java/lang/invoke/MethodHandle" ∧ yX6_partnerOf.cls ≠ "java/lang/invoke/VarHandle" ∧ (parseMethodDescriptor yX6_partnerOf.desc).map (fun d => d.parameters.length) = some 1 := by decide +kernel
theorem hdN_X6_partnerOf : yX6_partnerOf.cls ≠ "java/lang/invoke/MethodHandle" ∧ yX6_partnerOf.cls ≠ "java/lang/invoke/VarHandle" ∧ (parseMethodDescriptor yX6_partnerOf.desc).map (fun d => d.parameters.length) = some 1 := hdV_X6_partnerOf.2
abbrev rm_X6_pair : Room := { frames := 3, cells := 0, slots := 0, locals := 72 }
theorem hdV_X6_pair : yX6_pair.cls = RX6 ∧ yX6_pair.cls ≠ "java/lang/invoke/MethodHandle" ∧ yX6_pair.cls ≠ "java/lang/invoke/VarHandle" ∧ (parseMethodDescriptor yX6_pair.desc).map (fun d => d.parameters.length) = some 1 := by decide +kernel
theorem hdN_X6_pair : yX6_pair.cls ≠ "java/lang/invoke/MethodHandle" ∧ yX6_pair.cls ≠ "java/lang/invoke/VarHandle" ∧ (parseMethodDescriptor yX6_pair.desc).map (fun d => d.parameters.length) = some 1 := hdV_X6_pair.2
abbrev rm_X6_town : Room := { frames := 1, cells := 0, slots := 0, locals := 25 }
theorem hdV_X6_town : yX6_town.cls = RX6 ∧ yX6_town.cls ≠ "java/lang/invoke/MethodHandle" ∧ yX6_town.cls ≠ "java/lang/invoke/VarHandle" ∧ (parseMethodDescriptor yX6_town.desc).map (fun d => d.parameters.length) = some 1 := by decide +kernel
theorem hdN_X6_town : yX6_town.cls ≠ "java/lang/invoke/MethodHandle" ∧ yX6_town.cls ≠ "java/lang/invoke/VarHandle" ∧ (parseMethodDescriptor yX6_town.desc).map (fun d => d.parameters.length) = some 1 := hdV_X6_town.2
abbrev rm_X6_seen : Room := { frames := 2, cells := 0, slots := 0, locals := 46 }
theorem hdV_X6_seen : yX6_seen.cls = RX6 ∧ yX6_seen.cls ≠ "java/lang/invoke/MethodHandle" ∧ yX6_seen.cls ≠ "java/lang/invoke/VarHandle" ∧ (parseMethodDescriptor yX6_seen.desc).map (fun d => d.parameters.length) = some 3 := by decide +kernel
theorem hdN_X6_seen : yX6_seen.cls ≠ "java/lang/invoke/MethodHandle" ∧ yX6_seen.cls ≠ "java/lang/invoke/VarHandle" ∧ (parseMethodDescriptor yX6_seen.desc).map (fun d => d.parameters.length) = some 3 := hdV_X6_seen.2
abbrev rm_X6_forget : Room := { frames := 0, cells := 0, slots := 0, locals := 0 }
theorem hdV_X6_forget : yX6_forget.cls = RX6 ∧ yX6_forget.cls ≠ "java/lang/invoke/MethodHandle" ∧ yX6_forget.cls ≠ "java/lang/invoke/VarHandle" ∧ (parseMethodDescriptor yX6_forget.desc).map (fun d => d.parameters.length) = some 0 := by decide +kernel
theorem hdN_X6_forget : yX6_forget.cls ≠ "java/lang/invoke/MethodHandle" ∧ yX6_forget.cls ≠ "java/lang/invoke/VarHandle" ∧ (parseMethodDescriptor yX6_forget.desc).map (fun d => d.parameters.length) = some 0 := hdV_X6_forget.2
abbrev rm_X6_bindNothing : Room := { frames := 6, cells := 0, slots := 0, locals := 140 }
theorem hdV_X6_bindNothing : yX6_bindNothing.cls = RX6 ∧ yX6_bindNothing.cls ≠ "java/lang/invoke/MethodHandle" ∧ yX6_bindNothing.cls ≠ "java/lang/invoke/VarHandle" ∧ (parseMethodDescriptor yX6_bindNothing.desc).map (fun d => d.parameters.length) = some 2 := by decide +kernel
theorem hdN_X6_bindNothing : yX6_bindNothing.cls ≠ "java/lang/invoke/MethodHandle" ∧ yX6_bindNothing.cls ≠ "java/lang/invoke/VarHandle" ∧ (parseMethodDescriptor yX6_bindNothing.desc).map (fun d => d.parameters.length) = some 2 := hdV_X6_bindNothing.2
abbrev rm_X6_fits : Room := { frames := 8, cells := 0, slots := 0, locals := 188 }
theorem hdV_X6_fits : yX6_fits.cls = RX6 ∧ yX6_fits.cls ≠ "java/lang/invoke/MethodHandle" ∧ yX6_fits.cls ≠ "java/lang/invoke/VarHandle" ∧ (parseMethodDescriptor yX6_fits.desc).map (fun d => d.parameters.length) = some 1 := by decide +kernel
theorem hdN_X6_fits : yX6_fits.cls ≠ "java/lang/invoke/MethodHandle" ∧ yX6_fits.cls ≠ "java/lang/invoke/VarHandle" ∧ (parseMethodDescriptor yX6_fits.desc).map (fun d => d.parameters.length) = some 1 := hdV_X6_fits.2
abbrev rm_X6_copy : Room := { frames := 0, cells := 0, slots := 0, locals := 0 }
theorem hdV_X6_copy : yX6_copy.cls = RX6 ∧ yX6_copy.cls ≠ "java/lang/invoke/MethodHandle" ∧ yX6_copy.cls ≠ "java/lang/invoke/VarHandle" ∧ (parseMethodDescriptor yX6_copy.desc).map (fun d => d.parameters.length) = some 2 := by decide +kernel
theorem hdN_X6_copy : yX6_copy.cls ≠ "java/lang/invoke/MethodHandle" ∧ yX6_copy.cls ≠ "java/lang/invoke/VarHandle" ∧ (parseMethodDescriptor yX6_copy.desc).map (fun d => d.parameters.length) = some 2 := hdV_X6_copy.2
abbrev rm_X6_keep : Room := { frames := 1, cells := 0, slots := 0, locals := 25 }
theorem hdV_X6_keep : yX6_keep.cls = RX6 ∧ yX6_keep.cls ≠ "java/lang/invoke/MethodHandle" ∧ yX6_keep.cls ≠ "java/lang/invoke/VarHandle" ∧ (parseMethodDescriptor yX6_keep.desc).map (fun d => d.parameters.length) = some 1 := by decide +kernel
theorem hdN_X6_keep : yX6_keep.cls ≠ "java/lang/invoke/MethodHandle" ∧ yX6_keep.cls ≠ "java/lang/invoke/VarHandle" ∧ (parseMethodDescriptor yX6_keep.desc).map (fun d => d.parameters.length) = some 1 := hdV_X6_keep.2
abbrev rm_X6_back : Room := { frames := 1, cells := 0, slots := 0, locals := 25 }
theorem hdV_X6_back : yX6_back.cls = RX6 ∧ yX6_back.cls ≠ "java/lang/invoke/MethodHandle" ∧ yX6_back.cls ≠ "java/lang/invoke/VarHandle" ∧ (parseMethodDescriptor yX6_back.desc).map (fun d => d.parameters.length) = some 1 := by decide +kernel
theorem hdN_X6_back : yX6_back.cls ≠ "java/lang/invoke/MethodHandle" ∧ yX6_back.cls ≠ "java/lang/invoke/VarHandle" ∧ (parseMethodDescriptor yX6_back.desc).map (fun d => d.parameters.length) = some 1 := hdV_X6_back.2
abbrev rm_X6_count : Room := { frames := 0, cells := 0, slots := 0, locals := 0 }
theorem hdV_X6_count : yX6_count.cls = RX6 ∧ yX6_count.cls ≠ "java/lang/invoke/MethodHandle" ∧ yX6_count.cls ≠ "java/lang/invoke/VarHandle" ∧ (parseMethodDescriptor yX6_count.desc).map (fun d => d.parameters.length) = some 1 := by decide +kernel
theorem hdN_X6_count : yX6_count.cls ≠ "java/lang/invoke/MethodHandle" ∧ yX6_count.cls ≠ "java/lang/invoke/VarHandle" ∧ (parseMethodDescriptor yX6_count.desc).map (fun d => d.parameters.length) = some 1 := hdV_X6_count.2
