/-! ===== THE SHAPES: what each id is ===== -/
theorem sh_rep {SH : List Sh} {b n k : Nat} {s : Sh} (h : (SH.drop b).take n = List.replicate n s) (hk : k < n) : SH[b + k]? = some s := by
  have h1 : ((SH.drop b).take n)[k]? = some s := by rw [h]; simp [hk]
  rw [List.getElem?_take_of_lt hk, List.getElem?_drop] at h1
  exact h1
def SHC : List Sh := [
  .inl (11, [some 1, some 29, some 31, some 109, some 114, some 119, some 345, some 355, some 400, some 431, some 442]),
  .inl (8, [none, some 2, some 3, some 16, none]),
  .inr (0, 12, none),
  .inr (3, 12, some (4, 1)),
  .inr (0, 12, none),
  .inr (0, 12, none),
  .inr (0, 12, none),
  .inr (0, 12, none),
  .inr (0, 12, none),
  .inr (0, 12, none),
  .inr (0, 12, none),
  .inr (0, 12, none),
  .inr (0, 12, none),
  .inr (0, 12, none),
  .inr (0, 12, none),
  .inr (0, 12, none),
  .inr (3, 12, some (17, 1)),
  .inr (0, 12, none),
  .inr (0, 12, none),
  .inr (0, 12, none),
  .inr (0, 12, none),
  .inr (0, 12, none),
  .inr (0, 12, none),
  .inr (0, 12, none),
  .inr (0, 12, none),
  .inr (0, 12, none),
  .inr (0, 12, none),
  .inr (0, 12, none),
  .inr (0, 12, none),
  .inl (7, [none, some 30]),
  .inr (0, 6, none),
  .inl (9, [none, some 32, some 33, some 34, some 59, some 84]),
  .inr (0, 24, none),
  .inr (0, 24, none),
  .inr (3, 24, some (35, 1)),
  .inr (0, 8, none),
  .inr (0, 8, none),
  .inr (0, 8, none),
  .inr (0, 8, none),
  .inr (0, 8, none),
  .inr (0, 8, none),
  .inr (0, 8, none),
  .inr (0, 8, none),
  .inr (0, 8, none),
  .inr (0, 8, none),
  .inr (0, 8, none),
  .inr (0, 8, none),
  .inr (0, 8, none),
  .inr (0, 8, none),
  .inr (0, 8, none),
  .inr (0, 8, none),
  .inr (0, 8, none),
  .inr (0, 8, none),
  .inr (0, 8, none),
  .inr (0, 8, none),
  .inr (0, 8, none),
  .inr (0, 8, none),
  .inr (0, 8, none),
  .inr (0, 8, none),
  .inr (3, 24, some (60, 1)),
  .inr (0, 8, none),
  .inr (0, 8, none),
  .inr (0, 8, none),
  .inr (0, 8, none),
  .inr (0, 8, none),
  .inr (0, 8, none),
  .inr (0, 8, none),
  .inr (0, 8, none),
  .inr (0, 8, none),
  .inr (0, 8, none),
  .inr (0, 8, none),
  .inr (0, 8, none),
  .inr (0, 8, none),
  .inr (0, 8, none),
  .inr (0, 8, none),
  .inr (0, 8, none),
  .inr (0, 8, none),
  .inr (0, 8, none),
  .inr (0, 8, none),
  .inr (0, 8, none),
  .inr (0, 8, none),
  .inr (0, 8, none),
  .inr (0, 8, none),
  .inr (0, 8, none),
  .inr (3, 24, some (85, 1)),
  .inr (0, 8, none),
  .inr (0, 8, none),
  .inr (0, 8, none),
  .inr (0, 8, none),
  .inr (0, 8, none),
  .inr (0, 8, none),
  .inr (0, 8, none),
  .inr (0, 8, none),
  .inr (0, 8, none),
  .inr (0, 8, none),
  .inr (0, 8, none),
  .inr (0, 8, none),
  .inr (0, 8, none),
  .inr (0, 8, none),
  .inr (0, 8, none),
  .inr (0, 8, none),
  .inr (0, 8, none),
  .inr (0, 8, none),
  .inr (0, 8, none),
  .inr (0, 8, none),
  .inr (0, 8, none),
  .inr (0, 8, none),
  .inr (0, 8, none),
  .inr (0, 8, none),
  .inl (0, [none, some 110, some 111, some 112, some 113]),
  .inr (0, 12, none),
  .inr (0, 12, none),
  .inr (0, 12, none),
  .inr (0, 12, none),
  .inl (5, [some 115, none, none, none, none, some 116, some 117, some 118, none, none]),
  .inr (2, 80, none),
  .inr (0, 8, none),
  .inr (0, 8, none),
  .inr (0, 8, none),
  .inl (3, [some 1, some 29, some 31, some 109, none, some 120, some 121, some 122, some 123, some 196, some 269, none, some 342, some 343, some 344]),
  .inr (0, 72, none),
  .inr (0, 72, none),
  .inr (0, 72, none),
  .inr (3, 72, some (124, 1)),
  .inr (0, 8, none),
  .inr (0, 8, none),
  .inr (0, 8, none),
  .inr (0, 8, none),
  .inr (0, 8, none),
  .inr (0, 8, none),
  .inr (0, 8, none),
  .inr (0, 8, none),
  .inr (0, 8, none),
  .inr (0, 8, none),
  .inr (0, 8, none),
  .inr (0, 8, none),
  .inr (0, 8, none),
  .inr (0, 8, none),
  .inr (0, 8, none),
  .inr (0, 8, none),
  .inr (0, 8, none),
  .inr (0, 8, none),
  .inr (0, 8, none),
  .inr (0, 8, none),
  .inr (0, 8, none),
  .inr (0, 8, none),
  .inr (0, 8, none),
  .inr (0, 8, none),
  .inr (0, 8, none),
  .inr (0, 8, none),
  .inr (0, 8, none),
  .inr (0, 8, none),
  .inr (0, 8, none),
  .inr (0, 8, none),
  .inr (0, 8, none),
  .inr (0, 8, none),
  .inr (0, 8, none),
  .inr (0, 8, none),
  .inr (0, 8, none),
  .inr (0, 8, none),
  .inr (0, 8, none),
  .inr (0, 8, none),
  .inr (0, 8, none),
  .inr (0, 8, none),
  .inr (0, 8, none),
  .inr (0, 8, none),
  .inr (0, 8, none),
  .inr (0, 8, none),
  .inr (0, 8, none),
  .inr (0, 8, none),
  .inr (0, 8, none),
  .inr (0, 8, none),
  .inr (0, 8, none),
  .inr (0, 8, none),
  .inr (0, 8, none),
  .inr (0, 8, none),
  .inr (0, 8, none),
  .inr (0, 8, none),
  .inr (0, 8, none),
  .inr (0, 8, none),
  .inr (0, 8, none),
  .inr (0, 8, none),
  .inr (0, 8, none),
  .inr (0, 8, none),
  .inr (0, 8, none),
  .inr (0, 8, none),
  .inr (0, 8, none),
  .inr (0, 8, none),
  .inr (0, 8, none),
  .inr (0, 8, none),
  .inr (0, 8, none),
  .inr (0, 8, none),
  .inr (0, 8, none),
  .inr (0, 8, none),
  .inr (0, 8, none),
  .inr (0, 8, none),
  .inr (3, 72, some (197, 1)),
  .inr (0, 8, none),
  .inr (0, 8, none),
  .inr (0, 8, none),
  .inr (0, 8, none),
  .inr (0, 8, none),
  .inr (0, 8, none),
  .inr (0, 8, none),
  .inr (0, 8, none),
  .inr (0, 8, none),
  .inr (0, 8, none),
  .inr (0, 8, none),
  .inr (0, 8, none),
  .inr (0, 8, none),
  .inr (0, 8, none),
  .inr (0, 8, none),
  .inr (0, 8, none),
  .inr (0, 8, none),
  .inr (0, 8, none),
  .inr (0, 8, none),
  .inr (0, 8, none),
  .inr (0, 8, none),
  .inr (0, 8, none),
  .inr (0, 8, none),
  .inr (0, 8, none),
  .inr (0, 8, none),
  .inr (0, 8, none),
  .inr (0, 8, none),
  .inr (0, 8, none),
  .inr (0, 8, none),
  .inr (0, 8, none),
  .inr (0, 8, none),
  .inr (0, 8, none),
  .inr (0, 8, none),
  .inr (0, 8, none),
  .inr (0, 8, none),
  .inr (0, 8, none),
  .inr (0, 8, none),
  .inr (0, 8, none),
  .inr (0, 8, none),
  .inr (0, 8, none),
  .inr (0, 8, none),
  .inr (0, 8, none),
  .inr (0, 8, none),
  .inr (0, 8, none),
  .inr (0, 8, none),
  .inr (0, 8, none),
  .inr (0, 8, none),
  .inr (0, 8, none),
  .inr (0, 8, none),
  .inr (0, 8, none),
  .inr (0, 8, none),
  .inr (0, 8, none),
  .inr (0, 8, none),
  .inr (0, 8, none),
  .inr (0, 8, none),
  .inr (0, 8, none),
  .inr (0, 8, none),
  .inr (0, 8, none),
  .inr (0, 8, none),
  .inr (0, 8, none),
  .inr (0, 8, none),
  .inr (0, 8, none),
  .inr (0, 8, none),
  .inr (0, 8, none),
  .inr (0, 8, none),
  .inr (0, 8, none),
  .inr (0, 8, none),
  .inr (0, 8, none),
  .inr (0, 8, none),
  .inr (0, 8, none),
  .inr (0, 8, none),
  .inr (0, 8, none),
  .inr (3, 72, some (270, 1)),
  .inr (0, 8, none),
  .inr (0, 8, none),
  .inr (0, 8, none),
  .inr (0, 8, none),
  .inr (0, 8, none),
  .inr (0, 8, none),
  .inr (0, 8, none),
  .inr (0, 8, none),
  .inr (0, 8, none),
  .inr (0, 8, none),
  .inr (0, 8, none),
  .inr (0, 8, none),
  .inr (0, 8, none),
  .inr (0, 8, none),
  .inr (0, 8, none),
  .inr (0, 8, none),
  .inr (0, 8, none),
  .inr (0, 8, none),
  .inr (0, 8, none),
  .inr (0, 8, none),
  .inr (0, 8, none),
  .inr (0, 8, none),
  .inr (0, 8, none),
  .inr (0, 8, none),
  .inr (0, 8, none),
  .inr (0, 8, none),
  .inr (0, 8, none),
  .inr (0, 8, none),
  .inr (0, 8, none),
  .inr (0, 8, none),
  .inr (0, 8, none),
  .inr (0, 8, none),
  .inr (0, 8, none),
  .inr (0, 8, none),
  .inr (0, 8, none),
  .inr (0, 8, none),
  .inr (0, 8, none),
  .inr (0, 8, none),
  .inr (0, 8, none),
  .inr (0, 8, none),
  .inr (0, 8, none),
  .inr (0, 8, none),
  .inr (0, 8, none),
  .inr (0, 8, none),
  .inr (0, 8, none),
  .inr (0, 8, none),
  .inr (0, 8, none),
  .inr (0, 8, none),
  .inr (0, 8, none),
  .inr (0, 8, none),
  .inr (0, 8, none),
  .inr (0, 8, none),
  .inr (0, 8, none),
  .inr (0, 8, none),
  .inr (0, 8, none),
  .inr (0, 8, none),
  .inr (0, 8, none),
  .inr (0, 8, none),
  .inr (0, 8, none),
  .inr (0, 8, none),
  .inr (0, 8, none),
  .inr (0, 8, none),
  .inr (0, 8, none),
  .inr (0, 8, none),
  .inr (0, 8, none),
  .inr (0, 8, none),
  .inr (0, 8, none),
  .inr (0, 8, none),
  .inr (0, 8, none),
  .inr (0, 8, none),
  .inr (0, 8, none),
  .inr (0, 8, none),
  .inr (0, 576, none),
  .inr (0, 576, none),
  .inr (0, 576, none),
  .inl (6, [some 1, some 119, some 352, some 346, some 347, some 348, some 349, none, some 350, some 351]),
  .inr (1, 72, none),
  .inr (0, 12, none),
  .inr (0, 12, none),
  .inr (1, 24, none),
  .inr (0, 576, none),
  .inr (0, 576, none),
  .inl (2, [some 1, some 353, some 354]),
  .inr (0, 12, none),
  .inr (0, 12, none),
  .inl (4, [some 1, some 119, some 356, none, none, some 357, some 358, some 359, some 360]),
  .inr (4, 13, some (361, 3)),
  .inr (0, 12, none),
  .inr (0, 12, none),
  .inr (0, 12, none),
  .inr (0, 12, none),
  .inl (2, [some 1, some 362, some 363]),
  .inr (0, 12, none),
  .inr (0, 12, none),
  .inl (2, [some 1, some 365, some 366]),
  .inr (0, 12, none),
  .inr (0, 12, none),
  .inl (2, [some 1, some 368, some 369]),
  .inr (0, 12, none),
  .inr (0, 12, none),
  .inl (2, [some 1, some 371, some 372]),
  .inr (0, 12, none),
  .inr (0, 12, none),
  .inl (2, [some 1, some 374, some 375]),
  .inr (0, 12, none),
  .inr (0, 12, none),
  .inl (2, [some 1, some 377, some 378]),
  .inr (0, 12, none),
  .inr (0, 12, none),
  .inl (2, [some 1, some 380, some 381]),
  .inr (0, 12, none),
  .inr (0, 12, none),
  .inl (2, [some 1, some 383, some 384]),
  .inr (0, 12, none),
  .inr (0, 12, none),
  .inl (2, [some 1, some 386, some 387]),
  .inr (0, 12, none),
  .inr (0, 12, none),
  .inl (2, [some 1, some 389, some 390]),
  .inr (0, 12, none),
  .inr (0, 12, none),
  .inl (2, [some 1, some 392, some 393]),
  .inr (0, 12, none),
  .inr (0, 12, none),
  .inl (2, [some 1, some 395, some 396]),
  .inr (0, 12, none),
  .inr (0, 12, none),
  .inl (2, [some 1, some 398, some 399]),
  .inr (0, 12, none),
  .inr (0, 12, none),
  .inl (10, [some 1, some 29, some 31, some 109, none, some 401, some 402, some 403, some 404, some 405, some 406]),
  .inr (0, 6, none),
  .inr (0, 6, none),
  .inr (0, 6, none),
  .inr (0, 6, none),
  .inr (0, 6, none),
  .inr (3, 24, some (407, 1)),
  .inr (0, 8, none),
  .inr (0, 8, none),
  .inr (0, 8, none),
  .inr (0, 8, none),
  .inr (0, 8, none),
  .inr (0, 8, none),
  .inr (0, 8, none),
  .inr (0, 8, none),
  .inr (0, 8, none),
  .inr (0, 8, none),
  .inr (0, 8, none),
  .inr (0, 8, none),
  .inr (0, 8, none),
  .inr (0, 8, none),
  .inr (0, 8, none),
  .inr (0, 8, none),
  .inr (0, 8, none),
  .inr (0, 8, none),
  .inr (0, 8, none),
  .inr (0, 8, none),
  .inr (0, 8, none),
  .inr (0, 8, none),
  .inr (0, 8, none),
  .inr (0, 8, none),
  .inl (1, [none, some 432, some 433, some 434, some 435, some 436, some 437, some 438, some 439, some 440, some 441]),
  .inr (0, 24, none),
  .inr (0, 24, none),
  .inr (0, 24, none),
  .inr (0, 24, none),
  .inr (0, 48, none),
  .inr (0, 48, none),
  .inr (0, 24, none),
  .inr (0, 24, none),
  .inr (0, 24, none),
  .inr (0, 24, none),
  .inr (3, 12, some (443, 1)),
  .inr (0, 12, none),
  .inr (0, 12, none),
  .inr (0, 12, none),
  .inr (0, 12, none),
  .inr (0, 12, none),
  .inr (0, 12, none),
  .inr (0, 12, none),
  .inr (0, 12, none),
  .inr (0, 12, none),
  .inr (0, 12, none),
  .inr (0, 12, none),
  .inr (0, 12, none)]
theorem SHC_0 : SHC[0]? = some (.inl (11, [some 1, some 29, some 31, some 109, some 114, some 119, some 345, some 355, some 400, some 431, some 442])) := by rfl
theorem SHC_1 : SHC[1]? = some (.inl (8, [none, some 2, some 3, some 16, none])) := by rfl
theorem SHC_2 : SHC[2]? = some (.inr (0, 12, none)) := by rfl
theorem SHC_3 : SHC[3]? = some (.inr (3, 12, some (4, 1))) := by rfl
theorem SHC_16 : SHC[16]? = some (.inr (3, 12, some (17, 1))) := by rfl
theorem SHC_29 : SHC[29]? = some (.inl (7, [none, some 30])) := by rfl
theorem SHC_30 : SHC[30]? = some (.inr (0, 6, none)) := by rfl
theorem SHC_31 : SHC[31]? = some (.inl (9, [none, some 32, some 33, some 34, some 59, some 84])) := by rfl
theorem SHC_32 : SHC[32]? = some (.inr (0, 24, none)) := by rfl
theorem SHC_33 : SHC[33]? = some (.inr (0, 24, none)) := by rfl
theorem SHC_34 : SHC[34]? = some (.inr (3, 24, some (35, 1))) := by rfl
theorem SHC_59 : SHC[59]? = some (.inr (3, 24, some (60, 1))) := by rfl
theorem SHC_84 : SHC[84]? = some (.inr (3, 24, some (85, 1))) := by rfl
theorem SHC_109 : SHC[109]? = some (.inl (0, [none, some 110, some 111, some 112, some 113])) := by rfl
theorem SHC_110 : SHC[110]? = some (.inr (0, 12, none)) := by rfl
theorem SHC_111 : SHC[111]? = some (.inr (0, 12, none)) := by rfl
theorem SHC_112 : SHC[112]? = some (.inr (0, 12, none)) := by rfl
theorem SHC_113 : SHC[113]? = some (.inr (0, 12, none)) := by rfl
theorem SHC_114 : SHC[114]? = some (.inl (5, [some 115, none, none, none, none, some 116, some 117, some 118, none, none])) := by rfl
theorem SHC_115 : SHC[115]? = some (.inr (2, 80, none)) := by rfl
theorem SHC_116 : SHC[116]? = some (.inr (0, 8, none)) := by rfl
theorem SHC_117 : SHC[117]? = some (.inr (0, 8, none)) := by rfl
theorem SHC_118 : SHC[118]? = some (.inr (0, 8, none)) := by rfl
theorem SHC_119 : SHC[119]? = some (.inl (3, [some 1, some 29, some 31, some 109, none, some 120, some 121, some 122, some 123, some 196, some 269, none, some 342, some 343, some 344])) := by rfl
theorem SHC_120 : SHC[120]? = some (.inr (0, 72, none)) := by rfl
theorem SHC_121 : SHC[121]? = some (.inr (0, 72, none)) := by rfl
theorem SHC_122 : SHC[122]? = some (.inr (0, 72, none)) := by rfl
theorem SHC_123 : SHC[123]? = some (.inr (3, 72, some (124, 1))) := by rfl
theorem SHC_196 : SHC[196]? = some (.inr (3, 72, some (197, 1))) := by rfl
theorem SHC_269 : SHC[269]? = some (.inr (3, 72, some (270, 1))) := by rfl
theorem SHC_342 : SHC[342]? = some (.inr (0, 576, none)) := by rfl
theorem SHC_343 : SHC[343]? = some (.inr (0, 576, none)) := by rfl
theorem SHC_344 : SHC[344]? = some (.inr (0, 576, none)) := by rfl
theorem SHC_345 : SHC[345]? = some (.inl (6, [some 1, some 119, some 352, some 346, some 347, some 348, some 349, none, some 350, some 351])) := by rfl
theorem SHC_346 : SHC[346]? = some (.inr (1, 72, none)) := by rfl
theorem SHC_347 : SHC[347]? = some (.inr (0, 12, none)) := by rfl
theorem SHC_348 : SHC[348]? = some (.inr (0, 12, none)) := by rfl
theorem SHC_349 : SHC[349]? = some (.inr (1, 24, none)) := by rfl
theorem SHC_350 : SHC[350]? = some (.inr (0, 576, none)) := by rfl
theorem SHC_351 : SHC[351]? = some (.inr (0, 576, none)) := by rfl
theorem SHC_355 : SHC[355]? = some (.inl (4, [some 1, some 119, some 356, none, none, some 357, some 358, some 359, some 360])) := by rfl
theorem SHC_356 : SHC[356]? = some (.inr (4, 13, some (361, 3))) := by rfl
theorem SHC_357 : SHC[357]? = some (.inr (0, 12, none)) := by rfl
theorem SHC_358 : SHC[358]? = some (.inr (0, 12, none)) := by rfl
theorem SHC_359 : SHC[359]? = some (.inr (0, 12, none)) := by rfl
theorem SHC_360 : SHC[360]? = some (.inr (0, 12, none)) := by rfl
theorem SHC_400 : SHC[400]? = some (.inl (10, [some 1, some 29, some 31, some 109, none, some 401, some 402, some 403, some 404, some 405, some 406])) := by rfl
theorem SHC_401 : SHC[401]? = some (.inr (0, 6, none)) := by rfl
theorem SHC_402 : SHC[402]? = some (.inr (0, 6, none)) := by rfl
theorem SHC_403 : SHC[403]? = some (.inr (0, 6, none)) := by rfl
theorem SHC_404 : SHC[404]? = some (.inr (0, 6, none)) := by rfl
theorem SHC_405 : SHC[405]? = some (.inr (0, 6, none)) := by rfl
theorem SHC_406 : SHC[406]? = some (.inr (3, 24, some (407, 1))) := by rfl
theorem SHC_431 : SHC[431]? = some (.inl (1, [none, some 432, some 433, some 434, some 435, some 436, some 437, some 438, some 439, some 440, some 441])) := by rfl
theorem SHC_432 : SHC[432]? = some (.inr (0, 24, none)) := by rfl
theorem SHC_433 : SHC[433]? = some (.inr (0, 24, none)) := by rfl
theorem SHC_434 : SHC[434]? = some (.inr (0, 24, none)) := by rfl
theorem SHC_435 : SHC[435]? = some (.inr (0, 24, none)) := by rfl
theorem SHC_436 : SHC[436]? = some (.inr (0, 48, none)) := by rfl
theorem SHC_437 : SHC[437]? = some (.inr (0, 48, none)) := by rfl
theorem SHC_438 : SHC[438]? = some (.inr (0, 24, none)) := by rfl
theorem SHC_439 : SHC[439]? = some (.inr (0, 24, none)) := by rfl
theorem SHC_440 : SHC[440]? = some (.inr (0, 24, none)) := by rfl
theorem SHC_441 : SHC[441]? = some (.inr (0, 24, none)) := by rfl
theorem SHC_442 : SHC[442]? = some (.inr (3, 12, some (443, 1))) := by rfl
theorem SHC_443 : SHC[443]? = some (.inr (0, 12, none)) := by rfl
/-- rows of Lastbus$Stops.told -/
theorem SHC_r4 {i : Int} (h0 : 0 ≤ i) (h1 : i < 12) : SHC[4 + i.toNat]? = some (.inr (0, 12, none)) := by
  exact sh_rep (n := 12) (by rfl) (by omega)
/-- rows of Lastbus$Stops.walk -/
theorem SHC_r17 {i : Int} (h0 : 0 ≤ i) (h1 : i < 12) : SHC[17 + i.toNat]? = some (.inr (0, 12, none)) := by
  exact sh_rep (n := 12) (by rfl) (by omega)
/-- rows of Lastbus$Trips.stop -/
theorem SHC_r35 {i : Int} (h0 : 0 ≤ i) (h1 : i < 24) : SHC[35 + i.toNat]? = some (.inr (0, 8, none)) := by
  exact sh_rep (n := 24) (by rfl) (by omega)
/-- rows of Lastbus$Trips.arrive -/
theorem SHC_r60 {i : Int} (h0 : 0 ≤ i) (h1 : i < 24) : SHC[60 + i.toNat]? = some (.inr (0, 8, none)) := by
  exact sh_rep (n := 24) (by rfl) (by omega)
/-- rows of Lastbus$Trips.leave -/
theorem SHC_r85 {i : Int} (h0 : 0 ≤ i) (h1 : i < 24) : SHC[85 + i.toNat]? = some (.inr (0, 8, none)) := by
  exact sh_rep (n := 24) (by rfl) (by omega)
/-- rows of Lastbus$Net.stop -/
theorem SHC_r124 {i : Int} (h0 : 0 ≤ i) (h1 : i < 72) : SHC[124 + i.toNat]? = some (.inr (0, 8, none)) := by
  exact sh_rep (n := 72) (by rfl) (by omega)
/-- rows of Lastbus$Net.arrive -/
theorem SHC_r197 {i : Int} (h0 : 0 ≤ i) (h1 : i < 72) : SHC[197 + i.toNat]? = some (.inr (0, 8, none)) := by
  exact sh_rep (n := 72) (by rfl) (by omega)
/-- rows of Lastbus$Net.leave -/
theorem SHC_r270 {i : Int} (h0 : 0 ≤ i) (h1 : i < 72) : SHC[270 + i.toNat]? = some (.inr (0, 8, none)) := by
  exact sh_rep (n := 72) (by rfl) (by omega)
/-- rows of Lastbus$Wishes.delay -/
theorem SHC_r407 {i : Int} (h0 : 0 ≤ i) (h1 : i < 24) : SHC[407 + i.toNat]? = some (.inr (0, 8, none)) := by
  exact sh_rep (n := 24) (by rfl) (by omega)
/-- rows of Lastbus.arrivals -/
theorem SHC_r443 {i : Int} (h0 : 0 ≤ i) (h1 : i < 12) : SHC[443 + i.toNat]? = some (.inr (0, 12, none)) := by
  exact sh_rep (n := 12) (by rfl) (by omega)
def labId (r : Nat) : Nat := if r = 13 then 352 else 361 + 3 * r
def isLab (x : Nat) : Prop := ∃ r, r < 14 ∧ x = labId r
theorem shLab {x : Nat} (h : isLab x) : SHC[x]? = some (.inl (2, [some 1, some (x + 1), some (x + 2)])) := by
  obtain ⟨r, hr, rfl⟩ := h
  exact match r, hr with
  | 0, _ => rfl
  | 1, _ => rfl
  | 2, _ => rfl
  | 3, _ => rfl
  | 4, _ => rfl
  | 5, _ => rfl
  | 6, _ => rfl
  | 7, _ => rfl
  | 8, _ => rfl
  | 9, _ => rfl
  | 10, _ => rfl
  | 11, _ => rfl
  | 12, _ => rfl
  | 13, _ => rfl
  | n + 14, h => absurd h (by omega)
theorem shLab1 {x : Nat} (h : isLab x) : SHC[x + 1]? = some (.inr (0, 12, none)) := by
  obtain ⟨r, hr, rfl⟩ := h
  exact match r, hr with
  | 0, _ => rfl
  | 1, _ => rfl
  | 2, _ => rfl
  | 3, _ => rfl
  | 4, _ => rfl
  | 5, _ => rfl
  | 6, _ => rfl
  | 7, _ => rfl
  | 8, _ => rfl
  | 9, _ => rfl
  | 10, _ => rfl
  | 11, _ => rfl
  | 12, _ => rfl
  | 13, _ => rfl
  | n + 14, h => absurd h (by omega)
theorem shLab2 {x : Nat} (h : isLab x) : SHC[x + 2]? = some (.inr (0, 12, none)) := by
  obtain ⟨r, hr, rfl⟩ := h
  exact match r, hr with
  | 0, _ => rfl
  | 1, _ => rfl
  | 2, _ => rfl
  | 3, _ => rfl
  | 4, _ => rfl
  | 5, _ => rfl
  | 6, _ => rfl
  | 7, _ => rfl
  | 8, _ => rfl
  | 9, _ => rfl
  | 10, _ => rfl
  | 11, _ => rfl
  | 12, _ => rfl
  | 13, _ => rfl
  | n + 14, h => absurd h (by omega)
theorem labRow {i : Int} (h0 : 0 ≤ i) (h1 : i < 13) : isLab (361 + 3 * i.toNat) := ⟨i.toNat, by omega, (if_neg (by omega)).symm⟩
theorem labS : isLab 352 := ⟨13, by omega, rfl⟩
