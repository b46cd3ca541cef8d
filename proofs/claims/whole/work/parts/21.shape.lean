/-! ===== THE SHAPES: what each id is ===== -/
theorem sh_rep {SH : List Sh} {b n k : Nat} {s : Sh} (h : (SH.drop b).take n = List.replicate n s) (hk : k < n) : SH[b + k]? = some s := by
  have h1 : ((SH.drop b).take n)[k]? = some s := by rw [h]; simp [hk]
  rw [List.getElem?_take_of_lt hk, List.getElem?_drop] at h1
  exact h1
def SHC : List Sh := [
  .inl (11, [some 1, some 2, some 3, some 4, some 5, some 6, some 7, some 8, some 9, some 10, some 53]),
  .inl (8, [none, some 66, some 67, some 80, none]),
  .inl (7, [none, some 93]),
  .inl (9, [none, some 94, some 95, some 96, some 121, some 146]),
  .inl (0, [none, some 171, some 172, some 173, some 174]),
  .inl (5, [some 175, none, none, none, none, some 176, some 177, some 178, none, none]),
  .inl (3, [some 1, some 2, some 3, some 4, none, some 179, some 180, some 181, some 182, some 255, some 328, none, some 401, some 402, some 403]),
  .inl (6, [some 1, some 6, some 50, some 404, some 405, some 406, some 407, none, some 408, some 409]),
  .inl (4, [some 1, some 6, some 410, none, none, some 411, some 412, some 413, some 414]),
  .inl (10, [some 1, some 2, some 3, some 4, none, some 415, some 416, some 417, some 418, some 419, some 420]),
  .inl (1, [none, some 445, some 446, some 447, some 448, some 449, some 450, some 451, some 452, some 453, some 454]),
  .inl (2, [some 1, some 12, some 13]),
  .inr (0, 12, none),
  .inr (0, 12, none),
  .inl (2, [some 1, some 15, some 16]),
  .inr (0, 12, none),
  .inr (0, 12, none),
  .inl (2, [some 1, some 18, some 19]),
  .inr (0, 12, none),
  .inr (0, 12, none),
  .inl (2, [some 1, some 21, some 22]),
  .inr (0, 12, none),
  .inr (0, 12, none),
  .inl (2, [some 1, some 24, some 25]),
  .inr (0, 12, none),
  .inr (0, 12, none),
  .inl (2, [some 1, some 27, some 28]),
  .inr (0, 12, none),
  .inr (0, 12, none),
  .inl (2, [some 1, some 30, some 31]),
  .inr (0, 12, none),
  .inr (0, 12, none),
  .inl (2, [some 1, some 33, some 34]),
  .inr (0, 12, none),
  .inr (0, 12, none),
  .inl (2, [some 1, some 36, some 37]),
  .inr (0, 12, none),
  .inr (0, 12, none),
  .inl (2, [some 1, some 39, some 40]),
  .inr (0, 12, none),
  .inr (0, 12, none),
  .inl (2, [some 1, some 42, some 43]),
  .inr (0, 12, none),
  .inr (0, 12, none),
  .inl (2, [some 1, some 45, some 46]),
  .inr (0, 12, none),
  .inr (0, 12, none),
  .inl (2, [some 1, some 48, some 49]),
  .inr (0, 12, none),
  .inr (0, 12, none),
  .inl (2, [some 1, some 51, some 52]),
  .inr (0, 12, none),
  .inr (0, 12, none),
  .inr (3, 12, some (54, 1)),
  .inr (0, 12, none),
  .inr (0, 12, none),
  .inr (0, 12, none),
  .inr (0, 12, none),
  .inr (0, 12, none),
  .inr (0, 12, none),
  .inr (0, 12, none),
  .inr (0, 12, none),
  .inr (0, 12, none),
  .inr (0, 12, none),
  .inr (0, 12, none),
  .inr (0, 12, none),
  .inr (0, 12, none),
  .inr (3, 12, some (68, 1)),
  .inr (0, 12, none),
  .inr (0, 12, none),
  .inr (0, 12, none),
  .inr (0, 12, none),
  .inr (0, 12, none),
  .inr (0, 12, none),
  .inr (0, 12, none),
  .inr (0, 12, none),
  .inr (0, 12, none),
  .inr (0, 12, none),
  .inr (0, 12, none),
  .inr (0, 12, none),
  .inr (3, 12, some (81, 1)),
  .inr (0, 12, none),
  .inr (0, 12, none),
  .inr (0, 12, none),
  .inr (0, 12, none),
  .inr (0, 12, none),
  .inr (0, 12, none),
  .inr (0, 12, none),
  .inr (0, 12, none),
  .inr (0, 12, none),
  .inr (0, 12, none),
  .inr (0, 12, none),
  .inr (0, 12, none),
  .inr (0, 6, none),
  .inr (0, 24, none),
  .inr (0, 24, none),
  .inr (3, 24, some (97, 1)),
  .inr (0, 8, none),
  .inr (0, 8, none),
  .inr (0, 8, none),
  .inr (0, 8, none),
  .inr (0, 8, none),
  .inr (0, 8, none),
  .inr (0, 8, none),
  .inr (0, 8, none),
  .inr (0, 8, none),
  .inr (0, 8, none),
  .inr (0, 8, none),
  .inr (0, 8, none),
  .inr (0, 8, none),
  .inr (0, 8, none),
  .inr (0, 8, none),
  .inr (0, 8, none),
  .inr (0, 8, none),
  .inr (0, 8, none),
  .inr (0, 8, none),
  .inr (0, 8, none),
  .inr (0, 8, none),
  .inr (0, 8, none),
  .inr (0, 8, none),
  .inr (0, 8, none),
  .inr (3, 24, some (122, 1)),
  .inr (0, 8, none),
  .inr (0, 8, none),
  .inr (0, 8, none),
  .inr (0, 8, none),
  .inr (0, 8, none),
  .inr (0, 8, none),
  .inr (0, 8, none),
  .inr (0, 8, none),
  .inr (0, 8, none),
  .inr (0, 8, none),
  .inr (0, 8, none),
  .inr (0, 8, none),
  .inr (0, 8, none),
  .inr (0, 8, none),
  .inr (0, 8, none),
  .inr (0, 8, none),
  .inr (0, 8, none),
  .inr (0, 8, none),
  .inr (0, 8, none),
  .inr (0, 8, none),
  .inr (0, 8, none),
  .inr (0, 8, none),
  .inr (0, 8, none),
  .inr (0, 8, none),
  .inr (3, 24, some (147, 1)),
  .inr (0, 8, none),
  .inr (0, 8, none),
  .inr (0, 8, none),
  .inr (0, 8, none),
  .inr (0, 8, none),
  .inr (0, 8, none),
  .inr (0, 8, none),
  .inr (0, 8, none),
  .inr (0, 8, none),
  .inr (0, 8, none),
  .inr (0, 8, none),
  .inr (0, 8, none),
  .inr (0, 8, none),
  .inr (0, 8, none),
  .inr (0, 8, none),
  .inr (0, 8, none),
  .inr (0, 8, none),
  .inr (0, 8, none),
  .inr (0, 8, none),
  .inr (0, 8, none),
  .inr (0, 8, none),
  .inr (0, 8, none),
  .inr (0, 8, none),
  .inr (0, 8, none),
  .inr (0, 12, none),
  .inr (0, 12, none),
  .inr (0, 12, none),
  .inr (0, 12, none),
  .inr (2, 80, none),
  .inr (0, 8, none),
  .inr (0, 8, none),
  .inr (0, 8, none),
  .inr (0, 72, none),
  .inr (0, 72, none),
  .inr (0, 72, none),
  .inr (3, 72, some (183, 1)),
  .inr (0, 8, none),
  .inr (0, 8, none),
  .inr (0, 8, none),
  .inr (0, 8, none),
  .inr (0, 8, none),
  .inr (0, 8, none),
  .inr (0, 8, none),
  .inr (0, 8, none),
  .inr (0, 8, none),
  .inr (0, 8, none),
  .inr (0, 8, none),
  .inr (0, 8, none),
  .inr (0, 8, none),
  .inr (0, 8, none),
  .inr (0, 8, none),
  .inr (0, 8, none),
  .inr (0, 8, none),
  .inr (0, 8, none),
  .inr (0, 8, none),
  .inr (0, 8, none),
  .inr (0, 8, none),
  .inr (0, 8, none),
  .inr (0, 8, none),
  .inr (0, 8, none),
  .inr (0, 8, none),
  .inr (0, 8, none),
  .inr (0, 8, none),
  .inr (0, 8, none),
  .inr (0, 8, none),
  .inr (0, 8, none),
  .inr (0, 8, none),
  .inr (0, 8, none),
  .inr (0, 8, none),
  .inr (0, 8, none),
  .inr (0, 8, none),
  .inr (0, 8, none),
  .inr (0, 8, none),
  .inr (0, 8, none),
  .inr (0, 8, none),
  .inr (0, 8, none),
  .inr (0, 8, none),
  .inr (0, 8, none),
  .inr (0, 8, none),
  .inr (0, 8, none),
  .inr (0, 8, none),
  .inr (0, 8, none),
  .inr (0, 8, none),
  .inr (0, 8, none),
  .inr (0, 8, none),
  .inr (0, 8, none),
  .inr (0, 8, none),
  .inr (0, 8, none),
  .inr (0, 8, none),
  .inr (0, 8, none),
  .inr (0, 8, none),
  .inr (0, 8, none),
  .inr (0, 8, none),
  .inr (0, 8, none),
  .inr (0, 8, none),
  .inr (0, 8, none),
  .inr (0, 8, none),
  .inr (0, 8, none),
  .inr (0, 8, none),
  .inr (0, 8, none),
  .inr (0, 8, none),
  .inr (0, 8, none),
  .inr (0, 8, none),
  .inr (0, 8, none),
  .inr (0, 8, none),
  .inr (0, 8, none),
  .inr (0, 8, none),
  .inr (0, 8, none),
  .inr (3, 72, some (256, 1)),
  .inr (0, 8, none),
  .inr (0, 8, none),
  .inr (0, 8, none),
  .inr (0, 8, none),
  .inr (0, 8, none),
  .inr (0, 8, none),
  .inr (0, 8, none),
  .inr (0, 8, none),
  .inr (0, 8, none),
  .inr (0, 8, none),
  .inr (0, 8, none),
  .inr (0, 8, none),
  .inr (0, 8, none),
  .inr (0, 8, none),
  .inr (0, 8, none),
  .inr (0, 8, none),
  .inr (0, 8, none),
  .inr (0, 8, none),
  .inr (0, 8, none),
  .inr (0, 8, none),
  .inr (0, 8, none),
  .inr (0, 8, none),
  .inr (0, 8, none),
  .inr (0, 8, none),
  .inr (0, 8, none),
  .inr (0, 8, none),
  .inr (0, 8, none),
  .inr (0, 8, none),
  .inr (0, 8, none),
  .inr (0, 8, none),
  .inr (0, 8, none),
  .inr (0, 8, none),
  .inr (0, 8, none),
  .inr (0, 8, none),
  .inr (0, 8, none),
  .inr (0, 8, none),
  .inr (0, 8, none),
  .inr (0, 8, none),
  .inr (0, 8, none),
  .inr (0, 8, none),
  .inr (0, 8, none),
  .inr (0, 8, none),
  .inr (0, 8, none),
  .inr (0, 8, none),
  .inr (0, 8, none),
  .inr (0, 8, none),
  .inr (0, 8, none),
  .inr (0, 8, none),
  .inr (0, 8, none),
  .inr (0, 8, none),
  .inr (0, 8, none),
  .inr (0, 8, none),
  .inr (0, 8, none),
  .inr (0, 8, none),
  .inr (0, 8, none),
  .inr (0, 8, none),
  .inr (0, 8, none),
  .inr (0, 8, none),
  .inr (0, 8, none),
  .inr (0, 8, none),
  .inr (0, 8, none),
  .inr (0, 8, none),
  .inr (0, 8, none),
  .inr (0, 8, none),
  .inr (0, 8, none),
  .inr (0, 8, none),
  .inr (0, 8, none),
  .inr (0, 8, none),
  .inr (0, 8, none),
  .inr (0, 8, none),
  .inr (0, 8, none),
  .inr (0, 8, none),
  .inr (3, 72, some (329, 1)),
  .inr (0, 8, none),
  .inr (0, 8, none),
  .inr (0, 8, none),
  .inr (0, 8, none),
  .inr (0, 8, none),
  .inr (0, 8, none),
  .inr (0, 8, none),
  .inr (0, 8, none),
  .inr (0, 8, none),
  .inr (0, 8, none),
  .inr (0, 8, none),
  .inr (0, 8, none),
  .inr (0, 8, none),
  .inr (0, 8, none),
  .inr (0, 8, none),
  .inr (0, 8, none),
  .inr (0, 8, none),
  .inr (0, 8, none),
  .inr (0, 8, none),
  .inr (0, 8, none),
  .inr (0, 8, none),
  .inr (0, 8, none),
  .inr (0, 8, none),
  .inr (0, 8, none),
  .inr (0, 8, none),
  .inr (0, 8, none),
  .inr (0, 8, none),
  .inr (0, 8, none),
  .inr (0, 8, none),
  .inr (0, 8, none),
  .inr (0, 8, none),
  .inr (0, 8, none),
  .inr (0, 8, none),
  .inr (0, 8, none),
  .inr (0, 8, none),
  .inr (0, 8, none),
  .inr (0, 8, none),
  .inr (0, 8, none),
  .inr (0, 8, none),
  .inr (0, 8, none),
  .inr (0, 8, none),
  .inr (0, 8, none),
  .inr (0, 8, none),
  .inr (0, 8, none),
  .inr (0, 8, none),
  .inr (0, 8, none),
  .inr (0, 8, none),
  .inr (0, 8, none),
  .inr (0, 8, none),
  .inr (0, 8, none),
  .inr (0, 8, none),
  .inr (0, 8, none),
  .inr (0, 8, none),
  .inr (0, 8, none),
  .inr (0, 8, none),
  .inr (0, 8, none),
  .inr (0, 8, none),
  .inr (0, 8, none),
  .inr (0, 8, none),
  .inr (0, 8, none),
  .inr (0, 8, none),
  .inr (0, 8, none),
  .inr (0, 8, none),
  .inr (0, 8, none),
  .inr (0, 8, none),
  .inr (0, 8, none),
  .inr (0, 8, none),
  .inr (0, 8, none),
  .inr (0, 8, none),
  .inr (0, 8, none),
  .inr (0, 8, none),
  .inr (0, 8, none),
  .inr (0, 576, none),
  .inr (0, 576, none),
  .inr (0, 576, none),
  .inr (1, 72, none),
  .inr (0, 12, none),
  .inr (0, 12, none),
  .inr (1, 24, none),
  .inr (0, 576, none),
  .inr (0, 576, none),
  .inr (4, 13, some (11, 3)),
  .inr (0, 12, none),
  .inr (0, 12, none),
  .inr (0, 12, none),
  .inr (0, 12, none),
  .inr (0, 6, none),
  .inr (0, 6, none),
  .inr (0, 6, none),
  .inr (0, 6, none),
  .inr (0, 6, none),
  .inr (3, 24, some (421, 1)),
  .inr (0, 8, none),
  .inr (0, 8, none),
  .inr (0, 8, none),
  .inr (0, 8, none),
  .inr (0, 8, none),
  .inr (0, 8, none),
  .inr (0, 8, none),
  .inr (0, 8, none),
  .inr (0, 8, none),
  .inr (0, 8, none),
  .inr (0, 8, none),
  .inr (0, 8, none),
  .inr (0, 8, none),
  .inr (0, 8, none),
  .inr (0, 8, none),
  .inr (0, 8, none),
  .inr (0, 8, none),
  .inr (0, 8, none),
  .inr (0, 8, none),
  .inr (0, 8, none),
  .inr (0, 8, none),
  .inr (0, 8, none),
  .inr (0, 8, none),
  .inr (0, 8, none),
  .inr (0, 24, none),
  .inr (0, 24, none),
  .inr (0, 24, none),
  .inr (0, 24, none),
  .inr (0, 48, none),
  .inr (0, 48, none),
  .inr (0, 24, none),
  .inr (0, 24, none),
  .inr (0, 24, none),
  .inr (0, 24, none)]
theorem SHC_0 : SHC[0]? = some (.inl (11, [some 1, some 2, some 3, some 4, some 5, some 6, some 7, some 8, some 9, some 10, some 53])) := by rfl
theorem SHC_1 : SHC[1]? = some (.inl (8, [none, some 66, some 67, some 80, none])) := by rfl
theorem SHC_2 : SHC[2]? = some (.inl (7, [none, some 93])) := by rfl
theorem SHC_3 : SHC[3]? = some (.inl (9, [none, some 94, some 95, some 96, some 121, some 146])) := by rfl
theorem SHC_4 : SHC[4]? = some (.inl (0, [none, some 171, some 172, some 173, some 174])) := by rfl
theorem SHC_5 : SHC[5]? = some (.inl (5, [some 175, none, none, none, none, some 176, some 177, some 178, none, none])) := by rfl
theorem SHC_6 : SHC[6]? = some (.inl (3, [some 1, some 2, some 3, some 4, none, some 179, some 180, some 181, some 182, some 255, some 328, none, some 401, some 402, some 403])) := by rfl
theorem SHC_7 : SHC[7]? = some (.inl (6, [some 1, some 6, some 50, some 404, some 405, some 406, some 407, none, some 408, some 409])) := by rfl
theorem SHC_8 : SHC[8]? = some (.inl (4, [some 1, some 6, some 410, none, none, some 411, some 412, some 413, some 414])) := by rfl
theorem SHC_9 : SHC[9]? = some (.inl (10, [some 1, some 2, some 3, some 4, none, some 415, some 416, some 417, some 418, some 419, some 420])) := by rfl
theorem SHC_10 : SHC[10]? = some (.inl (1, [none, some 445, some 446, some 447, some 448, some 449, some 450, some 451, some 452, some 453, some 454])) := by rfl
theorem SHC_53 : SHC[53]? = some (.inr (3, 12, some (54, 1))) := by rfl
theorem SHC_54 : SHC[54]? = some (.inr (0, 12, none)) := by rfl
theorem SHC_66 : SHC[66]? = some (.inr (0, 12, none)) := by rfl
theorem SHC_67 : SHC[67]? = some (.inr (3, 12, some (68, 1))) := by rfl
theorem SHC_80 : SHC[80]? = some (.inr (3, 12, some (81, 1))) := by rfl
theorem SHC_93 : SHC[93]? = some (.inr (0, 6, none)) := by rfl
theorem SHC_94 : SHC[94]? = some (.inr (0, 24, none)) := by rfl
theorem SHC_95 : SHC[95]? = some (.inr (0, 24, none)) := by rfl
theorem SHC_96 : SHC[96]? = some (.inr (3, 24, some (97, 1))) := by rfl
theorem SHC_121 : SHC[121]? = some (.inr (3, 24, some (122, 1))) := by rfl
theorem SHC_146 : SHC[146]? = some (.inr (3, 24, some (147, 1))) := by rfl
theorem SHC_171 : SHC[171]? = some (.inr (0, 12, none)) := by rfl
theorem SHC_172 : SHC[172]? = some (.inr (0, 12, none)) := by rfl
theorem SHC_173 : SHC[173]? = some (.inr (0, 12, none)) := by rfl
theorem SHC_174 : SHC[174]? = some (.inr (0, 12, none)) := by rfl
theorem SHC_175 : SHC[175]? = some (.inr (2, 80, none)) := by rfl
theorem SHC_176 : SHC[176]? = some (.inr (0, 8, none)) := by rfl
theorem SHC_177 : SHC[177]? = some (.inr (0, 8, none)) := by rfl
theorem SHC_178 : SHC[178]? = some (.inr (0, 8, none)) := by rfl
theorem SHC_179 : SHC[179]? = some (.inr (0, 72, none)) := by rfl
theorem SHC_180 : SHC[180]? = some (.inr (0, 72, none)) := by rfl
theorem SHC_181 : SHC[181]? = some (.inr (0, 72, none)) := by rfl
theorem SHC_182 : SHC[182]? = some (.inr (3, 72, some (183, 1))) := by rfl
theorem SHC_255 : SHC[255]? = some (.inr (3, 72, some (256, 1))) := by rfl
theorem SHC_328 : SHC[328]? = some (.inr (3, 72, some (329, 1))) := by rfl
theorem SHC_401 : SHC[401]? = some (.inr (0, 576, none)) := by rfl
theorem SHC_402 : SHC[402]? = some (.inr (0, 576, none)) := by rfl
theorem SHC_403 : SHC[403]? = some (.inr (0, 576, none)) := by rfl
theorem SHC_404 : SHC[404]? = some (.inr (1, 72, none)) := by rfl
theorem SHC_405 : SHC[405]? = some (.inr (0, 12, none)) := by rfl
theorem SHC_406 : SHC[406]? = some (.inr (0, 12, none)) := by rfl
theorem SHC_407 : SHC[407]? = some (.inr (1, 24, none)) := by rfl
theorem SHC_408 : SHC[408]? = some (.inr (0, 576, none)) := by rfl
theorem SHC_409 : SHC[409]? = some (.inr (0, 576, none)) := by rfl
theorem SHC_410 : SHC[410]? = some (.inr (4, 13, some (11, 3))) := by rfl
theorem SHC_411 : SHC[411]? = some (.inr (0, 12, none)) := by rfl
theorem SHC_412 : SHC[412]? = some (.inr (0, 12, none)) := by rfl
theorem SHC_413 : SHC[413]? = some (.inr (0, 12, none)) := by rfl
theorem SHC_414 : SHC[414]? = some (.inr (0, 12, none)) := by rfl
theorem SHC_415 : SHC[415]? = some (.inr (0, 6, none)) := by rfl
theorem SHC_416 : SHC[416]? = some (.inr (0, 6, none)) := by rfl
theorem SHC_417 : SHC[417]? = some (.inr (0, 6, none)) := by rfl
theorem SHC_418 : SHC[418]? = some (.inr (0, 6, none)) := by rfl
theorem SHC_419 : SHC[419]? = some (.inr (0, 6, none)) := by rfl
theorem SHC_420 : SHC[420]? = some (.inr (3, 24, some (421, 1))) := by rfl
theorem SHC_445 : SHC[445]? = some (.inr (0, 24, none)) := by rfl
theorem SHC_446 : SHC[446]? = some (.inr (0, 24, none)) := by rfl
theorem SHC_447 : SHC[447]? = some (.inr (0, 24, none)) := by rfl
theorem SHC_448 : SHC[448]? = some (.inr (0, 24, none)) := by rfl
theorem SHC_449 : SHC[449]? = some (.inr (0, 48, none)) := by rfl
theorem SHC_450 : SHC[450]? = some (.inr (0, 48, none)) := by rfl
theorem SHC_451 : SHC[451]? = some (.inr (0, 24, none)) := by rfl
theorem SHC_452 : SHC[452]? = some (.inr (0, 24, none)) := by rfl
theorem SHC_453 : SHC[453]? = some (.inr (0, 24, none)) := by rfl
theorem SHC_454 : SHC[454]? = some (.inr (0, 24, none)) := by rfl
/-- rows of Lastbus.arrivals -/
theorem SHC_r54 {i : Int} (h0 : 0 ≤ i) (h1 : i < 12) : SHC[54 + i.toNat]? = some (.inr (0, 12, none)) := by
  exact sh_rep (n := 12) (by rfl) (by omega)
/-- rows of Lastbus$Stops.told -/
theorem SHC_r68 {i : Int} (h0 : 0 ≤ i) (h1 : i < 12) : SHC[68 + i.toNat]? = some (.inr (0, 12, none)) := by
  exact sh_rep (n := 12) (by rfl) (by omega)
/-- rows of Lastbus$Stops.walk -/
theorem SHC_r81 {i : Int} (h0 : 0 ≤ i) (h1 : i < 12) : SHC[81 + i.toNat]? = some (.inr (0, 12, none)) := by
  exact sh_rep (n := 12) (by rfl) (by omega)
/-- rows of Lastbus$Trips.stop -/
theorem SHC_r97 {i : Int} (h0 : 0 ≤ i) (h1 : i < 24) : SHC[97 + i.toNat]? = some (.inr (0, 8, none)) := by
  exact sh_rep (n := 24) (by rfl) (by omega)
/-- rows of Lastbus$Trips.arrive -/
theorem SHC_r122 {i : Int} (h0 : 0 ≤ i) (h1 : i < 24) : SHC[122 + i.toNat]? = some (.inr (0, 8, none)) := by
  exact sh_rep (n := 24) (by rfl) (by omega)
/-- rows of Lastbus$Trips.leave -/
theorem SHC_r147 {i : Int} (h0 : 0 ≤ i) (h1 : i < 24) : SHC[147 + i.toNat]? = some (.inr (0, 8, none)) := by
  exact sh_rep (n := 24) (by rfl) (by omega)
/-- rows of Lastbus$Net.stop -/
theorem SHC_r183 {i : Int} (h0 : 0 ≤ i) (h1 : i < 72) : SHC[183 + i.toNat]? = some (.inr (0, 8, none)) := by
  exact sh_rep (n := 72) (by rfl) (by omega)
/-- rows of Lastbus$Net.arrive -/
theorem SHC_r256 {i : Int} (h0 : 0 ≤ i) (h1 : i < 72) : SHC[256 + i.toNat]? = some (.inr (0, 8, none)) := by
  exact sh_rep (n := 72) (by rfl) (by omega)
/-- rows of Lastbus$Net.leave -/
theorem SHC_r329 {i : Int} (h0 : 0 ≤ i) (h1 : i < 72) : SHC[329 + i.toNat]? = some (.inr (0, 8, none)) := by
  exact sh_rep (n := 72) (by rfl) (by omega)
/-- rows of Lastbus$Wishes.delay -/
theorem SHC_r421 {i : Int} (h0 : 0 ≤ i) (h1 : i < 24) : SHC[421 + i.toNat]? = some (.inr (0, 8, none)) := by
  exact sh_rep (n := 24) (by rfl) (by omega)
def SHM : List Sh := [
  .inl (12, [none, none, some 1, some 2, some 3, none, none, some 4, none, some 5, some 6, some 7, some 8, some 9, none, some 10, some 11, some 12, some 13, none, some 14, none, none, some 15, some 16, none, some 17, some 18, none, none, some 19, some 20, some 21, none, some 22, some 23, none, some 24, some 25, some 26, some 27, some 28, some 29, some 30, some 31, none, some 32, some 33, none, none]),
  .inr (0, 12, none),
  .inr (0, 144, none),
  .inr (0, 144, none),
  .inr (1, 168, none),
  .inr (0, 24, none),
  .inr (0, 24, none),
  .inr (0, 192, none),
  .inr (0, 192, none),
  .inr (0, 192, none),
  .inr (0, 12, none),
  .inr (0, 12, none),
  .inr (0, 12, none),
  .inr (0, 12, none),
  .inr (0, 80, none),
  .inr (0, 12, none),
  .inr (0, 12, none),
  .inr (0, 888, none),
  .inr (0, 888, none),
  .inr (0, 74, none),
  .inr (0, 74, none),
  .inr (0, 74, none),
  .inr (0, 600, none),
  .inr (0, 600, none),
  .inr (0, 6, none),
  .inr (0, 6, none),
  .inr (0, 6, none),
  .inr (0, 6, none),
  .inr (0, 6, none),
  .inr (0, 192, none),
  .inr (0, 144, none),
  .inr (0, 32, none),
  .inr (0, 24, none),
  .inr (0, 24, none)]
theorem SHM_0 : SHM[0]? = some (.inl (12, [none, none, some 1, some 2, some 3, none, none, some 4, none, some 5, some 6, some 7, some 8, some 9, none, some 10, some 11, some 12, some 13, none, some 14, none, none, some 15, some 16, none, some 17, some 18, none, none, some 19, some 20, some 21, none, some 22, some 23, none, some 24, some 25, some 26, some 27, some 28, some 29, some 30, some 31, none, some 32, some 33, none, none])) := by rfl
theorem SHM_1 : SHM[1]? = some (.inr (0, 12, none)) := by rfl
theorem SHM_2 : SHM[2]? = some (.inr (0, 144, none)) := by rfl
theorem SHM_3 : SHM[3]? = some (.inr (0, 144, none)) := by rfl
theorem SHM_4 : SHM[4]? = some (.inr (1, 168, none)) := by rfl
theorem SHM_5 : SHM[5]? = some (.inr (0, 24, none)) := by rfl
theorem SHM_6 : SHM[6]? = some (.inr (0, 24, none)) := by rfl
theorem SHM_7 : SHM[7]? = some (.inr (0, 192, none)) := by rfl
theorem SHM_8 : SHM[8]? = some (.inr (0, 192, none)) := by rfl
theorem SHM_9 : SHM[9]? = some (.inr (0, 192, none)) := by rfl
theorem SHM_10 : SHM[10]? = some (.inr (0, 12, none)) := by rfl
theorem SHM_11 : SHM[11]? = some (.inr (0, 12, none)) := by rfl
theorem SHM_12 : SHM[12]? = some (.inr (0, 12, none)) := by rfl
theorem SHM_13 : SHM[13]? = some (.inr (0, 12, none)) := by rfl
theorem SHM_14 : SHM[14]? = some (.inr (0, 80, none)) := by rfl
theorem SHM_15 : SHM[15]? = some (.inr (0, 12, none)) := by rfl
theorem SHM_16 : SHM[16]? = some (.inr (0, 12, none)) := by rfl
theorem SHM_17 : SHM[17]? = some (.inr (0, 888, none)) := by rfl
theorem SHM_18 : SHM[18]? = some (.inr (0, 888, none)) := by rfl
theorem SHM_19 : SHM[19]? = some (.inr (0, 74, none)) := by rfl
theorem SHM_20 : SHM[20]? = some (.inr (0, 74, none)) := by rfl
theorem SHM_21 : SHM[21]? = some (.inr (0, 74, none)) := by rfl
theorem SHM_22 : SHM[22]? = some (.inr (0, 600, none)) := by rfl
theorem SHM_23 : SHM[23]? = some (.inr (0, 600, none)) := by rfl
theorem SHM_24 : SHM[24]? = some (.inr (0, 6, none)) := by rfl
theorem SHM_25 : SHM[25]? = some (.inr (0, 6, none)) := by rfl
theorem SHM_26 : SHM[26]? = some (.inr (0, 6, none)) := by rfl
theorem SHM_27 : SHM[27]? = some (.inr (0, 6, none)) := by rfl
theorem SHM_28 : SHM[28]? = some (.inr (0, 6, none)) := by rfl
theorem SHM_29 : SHM[29]? = some (.inr (0, 192, none)) := by rfl
theorem SHM_30 : SHM[30]? = some (.inr (0, 144, none)) := by rfl
theorem SHM_31 : SHM[31]? = some (.inr (0, 32, none)) := by rfl
theorem SHM_32 : SHM[32]? = some (.inr (0, 24, none)) := by rfl
theorem SHM_33 : SHM[33]? = some (.inr (0, 24, none)) := by rfl
def isLab (x : Nat) : Prop := ∃ r, r < 14 ∧ x = 11 + 3 * r
theorem shLab {x : Nat} (h : isLab x) : SHC[x]? = some (.inl (2, [some 1, some (x + 1), some (x + 2)])) := by
  obtain ⟨r, hr, rfl⟩ := h
  exact match r, hr with
  | 0, _ => rfl
  | 1, _ => rfl
  | 2, _ => rfl
  | 3, _ => rfl
  | 4, _ => rfl
  | 5, _ => rfl
  | 6, _ => rfl
  | 7, _ => rfl
  | 8, _ => rfl
  | 9, _ => rfl
  | 10, _ => rfl
  | 11, _ => rfl
  | 12, _ => rfl
  | 13, _ => rfl
  | n + 14, h => absurd h (by omega)
theorem shLab1 {x : Nat} (h : isLab x) : SHC[x + 1]? = some (.inr (0, 12, none)) := by
  obtain ⟨r, hr, rfl⟩ := h
  exact match r, hr with
  | 0, _ => rfl
  | 1, _ => rfl
  | 2, _ => rfl
  | 3, _ => rfl
  | 4, _ => rfl
  | 5, _ => rfl
  | 6, _ => rfl
  | 7, _ => rfl
  | 8, _ => rfl
  | 9, _ => rfl
  | 10, _ => rfl
  | 11, _ => rfl
  | 12, _ => rfl
  | 13, _ => rfl
  | n + 14, h => absurd h (by omega)
theorem shLab2 {x : Nat} (h : isLab x) : SHC[x + 2]? = some (.inr (0, 12, none)) := by
  obtain ⟨r, hr, rfl⟩ := h
  exact match r, hr with
  | 0, _ => rfl
  | 1, _ => rfl
  | 2, _ => rfl
  | 3, _ => rfl
  | 4, _ => rfl
  | 5, _ => rfl
  | 6, _ => rfl
  | 7, _ => rfl
  | 8, _ => rfl
  | 9, _ => rfl
  | 10, _ => rfl
  | 11, _ => rfl
  | 12, _ => rfl
  | 13, _ => rfl
  | n + 14, h => absurd h (by omega)
theorem labRow {i : Int} (h0 : 0 ≤ i) (h1 : i < 13) : isLab (11 + 3 * i.toNat) := ⟨i.toNat, by omega, rfl⟩
theorem labS : isLab 50 := ⟨13, by omega, by omega⟩
