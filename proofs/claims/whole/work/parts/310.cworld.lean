/-! ===== the class's world ===== -/
def gfC : Nat → Nat := fun k => if k = 0 then 52 else 53
def SC : fW := [(1, shX11 2 10 18 26 27 28 29 37 42 54 65), (2, shX2 3 7 8 9), (3, shX10 4 5 6), (4, shI 13), (5, shI 13), (6, shI 13), (7, shI 5), (8, shI 5), (9, shJ 7), (10, shX2 11 15 16 17), (11, shX10 12 13 14), (12, shI 13), (13, shI 13), (14, shI 13), (15, shI 5), (16, shI 5), (17, shJ 7), (18, shX2 19 23 24 25), (19, shX10 20 21 22), (20, shI 13), (21, shI 13), (22, shI 13), (23, shI 5), (24, shI 5), (25, shJ 7), (26, shI 20), (27, shX3), (28, shX4), (29, shX8 30 31 32 35 36), (30, shJ 13), (31, shJ 13), (32, shX0 33 34), (33, shJ 13), (34, shJ 13), (35, shX4), (36, shX3), (37, shX9 38 39 40 41), (38, shX3), (39, shX4), (40, shJ 7), (41, shI 7), (42, shX1 43 48 49 50 51), (43, shX9 44 45 46 47), (44, shX3), (45, shX4), (46, shJ 7), (47, shI 7), (48, shI 7), (49, shJ 2), (50, shI 2), (51, shII 2 gfC), (52, shI 7), (53, shI 7), (54, shX7 55 56 57 58 59 60 63 64), (55, shJ 13), (56, shJ 13), (57, shX3), (58, shX4), (59, shX4), (60, shX0 61 62), (61, shJ 13), (62, shJ 13), (63, shI 5), (64, shI 5), (65, shX6 66 74 78 82), (66, shX8 67 68 69 72 73), (67, shJ 13), (68, shJ 13), (69, shX0 70 71), (70, shJ 13), (71, shJ 13), (72, shX4), (73, shX3), (74, shX10 75 76 77), (75, shI 13), (76, shI 13), (77, shI 13), (78, shX10 79 80 81), (79, shI 13), (80, shI 13), (81, shI 13), (82, shX10 83 84 85), (83, shI 13), (84, shI 13), (85, shI 13)]
theorem hC1 : (1, shX11 2 10 18 26 27 28 29 37 42 54 65) ∈ SC := List.mem_of_getElem? (i := 0) rfl
theorem hC2 : (2, shX2 3 7 8 9) ∈ SC := List.mem_of_getElem? (i := 1) rfl
theorem hC3 : (3, shX10 4 5 6) ∈ SC := List.mem_of_getElem? (i := 2) rfl
theorem hC4 : (4, shI 13) ∈ SC := List.mem_of_getElem? (i := 3) rfl
theorem hC5 : (5, shI 13) ∈ SC := List.mem_of_getElem? (i := 4) rfl
theorem hC6 : (6, shI 13) ∈ SC := List.mem_of_getElem? (i := 5) rfl
theorem hC7 : (7, shI 5) ∈ SC := List.mem_of_getElem? (i := 6) rfl
theorem hC8 : (8, shI 5) ∈ SC := List.mem_of_getElem? (i := 7) rfl
theorem hC9 : (9, shJ 7) ∈ SC := List.mem_of_getElem? (i := 8) rfl
theorem hC10 : (10, shX2 11 15 16 17) ∈ SC := List.mem_of_getElem? (i := 9) rfl
theorem hC11 : (11, shX10 12 13 14) ∈ SC := List.mem_of_getElem? (i := 10) rfl
theorem hC12 : (12, shI 13) ∈ SC := List.mem_of_getElem? (i := 11) rfl
theorem hC13 : (13, shI 13) ∈ SC := List.mem_of_getElem? (i := 12) rfl
theorem hC14 : (14, shI 13) ∈ SC := List.mem_of_getElem? (i := 13) rfl
theorem hC15 : (15, shI 5) ∈ SC := List.mem_of_getElem? (i := 14) rfl
theorem hC16 : (16, shI 5) ∈ SC := List.mem_of_getElem? (i := 15) rfl
theorem hC17 : (17, shJ 7) ∈ SC := List.mem_of_getElem? (i := 16) rfl
theorem hC18 : (18, shX2 19 23 24 25) ∈ SC := List.mem_of_getElem? (i := 17) rfl
theorem hC19 : (19, shX10 20 21 22) ∈ SC := List.mem_of_getElem? (i := 18) rfl
theorem hC20 : (20, shI 13) ∈ SC := List.mem_of_getElem? (i := 19) rfl
theorem hC21 : (21, shI 13) ∈ SC := List.mem_of_getElem? (i := 20) rfl
theorem hC22 : (22, shI 13) ∈ SC := List.mem_of_getElem? (i := 21) rfl
theorem hC23 : (23, shI 5) ∈ SC := List.mem_of_getElem? (i := 22) rfl
theorem hC24 : (24, shI 5) ∈ SC := List.mem_of_getElem? (i := 23) rfl
theorem hC25 : (25, shJ 7) ∈ SC := List.mem_of_getElem? (i := 24) rfl
theorem hC26 : (26, shI 20) ∈ SC := List.mem_of_getElem? (i := 25) rfl
theorem hC27 : (27, shX3) ∈ SC := List.mem_of_getElem? (i := 26) rfl
theorem hC28 : (28, shX4) ∈ SC := List.mem_of_getElem? (i := 27) rfl
theorem hC29 : (29, shX8 30 31 32 35 36) ∈ SC := List.mem_of_getElem? (i := 28) rfl
theorem hC30 : (30, shJ 13) ∈ SC := List.mem_of_getElem? (i := 29) rfl
theorem hC31 : (31, shJ 13) ∈ SC := List.mem_of_getElem? (i := 30) rfl
theorem hC32 : (32, shX0 33 34) ∈ SC := List.mem_of_getElem? (i := 31) rfl
theorem hC33 : (33, shJ 13) ∈ SC := List.mem_of_getElem? (i := 32) rfl
theorem hC34 : (34, shJ 13) ∈ SC := List.mem_of_getElem? (i := 33) rfl
theorem hC35 : (35, shX4) ∈ SC := List.mem_of_getElem? (i := 34) rfl
theorem hC36 : (36, shX3) ∈ SC := List.mem_of_getElem? (i := 35) rfl
theorem hC37 : (37, shX9 38 39 40 41) ∈ SC := List.mem_of_getElem? (i := 36) rfl
theorem hC38 : (38, shX3) ∈ SC := List.mem_of_getElem? (i := 37) rfl
theorem hC39 : (39, shX4) ∈ SC := List.mem_of_getElem? (i := 38) rfl
theorem hC40 : (40, shJ 7) ∈ SC := List.mem_of_getElem? (i := 39) rfl
theorem hC41 : (41, shI 7) ∈ SC := List.mem_of_getElem? (i := 40) rfl
theorem hC42 : (42, shX1 43 48 49 50 51) ∈ SC := List.mem_of_getElem? (i := 41) rfl
theorem hC43 : (43, shX9 44 45 46 47) ∈ SC := List.mem_of_getElem? (i := 42) rfl
theorem hC44 : (44, shX3) ∈ SC := List.mem_of_getElem? (i := 43) rfl
theorem hC45 : (45, shX4) ∈ SC := List.mem_of_getElem? (i := 44) rfl
theorem hC46 : (46, shJ 7) ∈ SC := List.mem_of_getElem? (i := 45) rfl
theorem hC47 : (47, shI 7) ∈ SC := List.mem_of_getElem? (i := 46) rfl
theorem hC48 : (48, shI 7) ∈ SC := List.mem_of_getElem? (i := 47) rfl
theorem hC49 : (49, shJ 2) ∈ SC := List.mem_of_getElem? (i := 48) rfl
theorem hC50 : (50, shI 2) ∈ SC := List.mem_of_getElem? (i := 49) rfl
theorem hC51 : (51, shII 2 gfC) ∈ SC := List.mem_of_getElem? (i := 50) rfl
theorem hC52 : (52, shI 7) ∈ SC := List.mem_of_getElem? (i := 51) rfl
theorem hC53 : (53, shI 7) ∈ SC := List.mem_of_getElem? (i := 52) rfl
theorem hC54 : (54, shX7 55 56 57 58 59 60 63 64) ∈ SC := List.mem_of_getElem? (i := 53) rfl
theorem hC55 : (55, shJ 13) ∈ SC := List.mem_of_getElem? (i := 54) rfl
theorem hC56 : (56, shJ 13) ∈ SC := List.mem_of_getElem? (i := 55) rfl
theorem hC57 : (57, shX3) ∈ SC := List.mem_of_getElem? (i := 56) rfl
theorem hC58 : (58, shX4) ∈ SC := List.mem_of_getElem? (i := 57) rfl
theorem hC59 : (59, shX4) ∈ SC := List.mem_of_getElem? (i := 58) rfl
theorem hC60 : (60, shX0 61 62) ∈ SC := List.mem_of_getElem? (i := 59) rfl
theorem hC61 : (61, shJ 13) ∈ SC := List.mem_of_getElem? (i := 60) rfl
theorem hC62 : (62, shJ 13) ∈ SC := List.mem_of_getElem? (i := 61) rfl
theorem hC63 : (63, shI 5) ∈ SC := List.mem_of_getElem? (i := 62) rfl
theorem hC64 : (64, shI 5) ∈ SC := List.mem_of_getElem? (i := 63) rfl
theorem hC65 : (65, shX6 66 74 78 82) ∈ SC := List.mem_of_getElem? (i := 64) rfl
theorem hC66 : (66, shX8 67 68 69 72 73) ∈ SC := List.mem_of_getElem? (i := 65) rfl
theorem hC67 : (67, shJ 13) ∈ SC := List.mem_of_getElem? (i := 66) rfl
theorem hC68 : (68, shJ 13) ∈ SC := List.mem_of_getElem? (i := 67) rfl
theorem hC69 : (69, shX0 70 71) ∈ SC := List.mem_of_getElem? (i := 68) rfl
theorem hC70 : (70, shJ 13) ∈ SC := List.mem_of_getElem? (i := 69) rfl
theorem hC71 : (71, shJ 13) ∈ SC := List.mem_of_getElem? (i := 70) rfl
theorem hC72 : (72, shX4) ∈ SC := List.mem_of_getElem? (i := 71) rfl
theorem hC73 : (73, shX3) ∈ SC := List.mem_of_getElem? (i := 72) rfl
theorem hC74 : (74, shX10 75 76 77) ∈ SC := List.mem_of_getElem? (i := 73) rfl
theorem hC75 : (75, shI 13) ∈ SC := List.mem_of_getElem? (i := 74) rfl
theorem hC76 : (76, shI 13) ∈ SC := List.mem_of_getElem? (i := 75) rfl
theorem hC77 : (77, shI 13) ∈ SC := List.mem_of_getElem? (i := 76) rfl
theorem hC78 : (78, shX10 79 80 81) ∈ SC := List.mem_of_getElem? (i := 77) rfl
theorem hC79 : (79, shI 13) ∈ SC := List.mem_of_getElem? (i := 78) rfl
theorem hC80 : (80, shI 13) ∈ SC := List.mem_of_getElem? (i := 79) rfl
theorem hC81 : (81, shI 13) ∈ SC := List.mem_of_getElem? (i := 80) rfl
theorem hC82 : (82, shX10 83 84 85) ∈ SC := List.mem_of_getElem? (i := 81) rfl
theorem hC83 : (83, shI 13) ∈ SC := List.mem_of_getElem? (i := 82) rfl
theorem hC84 : (84, shI 13) ∈ SC := List.mem_of_getElem? (i := 83) rfl
theorem hC85 : (85, shI 13) ∈ SC := List.mem_of_getElem? (i := 84) rfl
theorem tC3 : TxS SC 3 4 5 6 := ⟨⟨hC3, hC4, hC5, hC6⟩, by decide, by decide, by decide, by decide, by decide, by decide⟩
theorem tC11 : TxS SC 11 12 13 14 := ⟨⟨hC11, hC12, hC13, hC14⟩, by decide, by decide, by decide, by decide, by decide, by decide⟩
theorem tC19 : TxS SC 19 20 21 22 := ⟨⟨hC19, hC20, hC21, hC22⟩, by decide, by decide, by decide, by decide, by decide, by decide⟩
theorem tC74 : TxS SC 74 75 76 77 := ⟨⟨hC74, hC75, hC76, hC77⟩, by decide, by decide, by decide, by decide, by decide, by decide⟩
theorem tC78 : TxS SC 78 79 80 81 := ⟨⟨hC78, hC79, hC80, hC81⟩, by decide, by decide, by decide, by decide, by decide, by decide⟩
theorem tC82 : TxS SC 82 83 84 85 := ⟨⟨hC82, hC83, hC84, hC85⟩, by decide, by decide, by decide, by decide, by decide, by decide⟩
theorem stC29 : StS SC 29 30 31 32 35 36 := ⟨hC29, hC30, hC31, hC35, hC36⟩
theorem stC66 : StS SC 66 67 68 69 72 73 := ⟨hC66, hC67, hC68, hC72, hC73⟩
theorem frC32 : FrS SC 32 33 34 := ⟨hC32, hC33, hC34, by decide⟩
theorem frC60 : FrS SC 60 61 62 := ⟨hC60, hC61, hC62, by decide⟩
theorem frC69 : FrS SC 69 70 71 := ⟨hC69, hC70, hC71, by decide⟩
theorem suC37 : SuS SC 37 38 39 40 41 := ⟨⟨hC37, hC38, hC39, hC40, hC41⟩, by decide⟩
theorem suC43 : SuS SC 43 44 45 46 47 := ⟨⟨hC43, hC44, hC45, hC46, hC47⟩, by decide⟩
theorem orC : OrS SC 42 43 48 49 50 51 52 53 gfC := ⟨⟨hC42, hC48, hC49, hC50, hC51⟩, ⟨hC52, hC53⟩, rfl, rfl⟩
theorem spC : SpS SC 54 55 56 57 58 59 60 63 64 := ⟨hC54, hC55, hC56, hC57, hC58, hC59⟩
theorem seC : SeW SC 65 66 67 68 69 72 73 70 71 74 75 76 77 78 79 80 81 82 83 84 85 7 := ⟨hC65, tC74, tC78, tC82, stC66, frC69, hC7, by decide⟩
theorem pgC : SpW SC 65 66 67 68 69 72 73 70 71 74 75 76 77 78 79 80 81 82 83 84 85 7 3 4 5 6 2 8 9 := ⟨seC, tC3, hC2, by decide⟩
