/-! ===== the law: the blocks of the calls ===== -/
theorem INV_r {L c1 c2 : Nat} {xs : Nat → Int32} {X : icH} (I : INV L xs c1 c2 X) : (∃ fs, hg X 0 = some (ob 7 fs)) ∧ hg X icSc = some (as7 L xs) := by
  obtain ⟨ab, be, ii, A, H, R, N, D, F, f, i⟩ := I
  exact ⟨⟨_, i.1.1⟩, i.2.2.1⟩
theorem lg_self (q : Int64) : lg_cmp q q = 0 := by simp [lg_cmp]
theorem lk_0 {L c1 c2 i : Nat} {xs : Nat → Int32} {X : icH} (I : INV L xs c1 c2 X) (hL : L ≤ 3072) (hi : i + 6 ≤ L) : ∃ Y, INV L xs c1 c2 Y ∧ icE 226 220 [.ref icSc, .ref 0, .ref 90, .int (nI i)] [] X = icE 226 1441 [.ref icSc, .ref 0, .ref 90, .int (nI i)] [] Y := by
  obtain ⟨q, X', Y, e1, e2, ⟨g1, fs, g2⟩, J⟩ := st_house I (xs (i + 1))
  obtain ⟨⟨f1, f0⟩, s0⟩ := INV_r I
  refine ⟨Y, J, ?_⟩
  simp only [SA, r_226_220, r_226_221, r_226_222, r_226_223, r_226_224, r_226_225, r_226_226, r_226_229, r_226_230, r_226_231, r_226_232, r_226_233, r_226_234, r_226_235, r_226_238, s0, f0, g1, g2, nI_add, ia_7 (show i + 1 < L by omega) (show L < 2 ^ 31 by omega), e1, e2]
  exact if_pos True.intro
theorem lk_1 {L c1 c2 i : Nat} {xs : Nat → Int32} {X : icH} (I : INV L xs c1 c2 X) (hL : L ≤ 3072) (hi : i + 6 ≤ L) : ∃ Y, INV L xs c1 c2 Y ∧ icE 226 243 [.ref icSc, .ref 0, .ref 90, .int (nI i)] [] X = icE 226 1441 [.ref icSc, .ref 0, .ref 90, .int (nI i)] [] Y := by
  obtain ⟨q, X', Y, e1, e2, ⟨g1, fs, g2⟩, J⟩ := st_warm I (xs (i + 1)) (xs (i + 2))
  obtain ⟨⟨f1, f0⟩, s0⟩ := INV_r I
  refine ⟨Y, J, ?_⟩
  simp only [SA, r_226_243, r_226_244, r_226_245, r_226_246, r_226_247, r_226_248, r_226_249, r_226_250, r_226_251, r_226_252, r_226_253, r_226_254, r_226_257, r_226_258, r_226_259, r_226_260, r_226_261, r_226_262, r_226_263, r_226_264, r_226_265, r_226_266, r_226_267, r_226_268, r_226_271, s0, f0, g1, g2, nI_add, ia_7 (show i + 1 < L by omega) (show L < 2 ^ 31 by omega), ia_7 (show i + 2 < L by omega) (show L < 2 ^ 31 by omega), e1, e2]
  exact if_pos True.intro
theorem lk_2 {L c1 c2 i : Nat} {xs : Nat → Int32} {X : icH} (I : INV L xs c1 c2 X) (hL : L ≤ 3072) (hi : i + 6 ≤ L) : ∃ Y, INV L xs c1 c2 Y ∧ icE 226 276 [.ref icSc, .ref 0, .ref 90, .int (nI i)] [] X = icE 226 1441 [.ref icSc, .ref 0, .ref 90, .int (nI i)] [] Y := by
  obtain ⟨q, X', Y, e1, e2, ⟨g1, fs, g2⟩, J⟩ := st_roof I (xs (i + 1)) (xs (i + 2)) (xs (i + 3))
  obtain ⟨⟨f1, f0⟩, s0⟩ := INV_r I
  refine ⟨Y, J, ?_⟩
  simp only [SA, r_226_276, r_226_277, r_226_278, r_226_279, r_226_280, r_226_281, r_226_282, r_226_283, r_226_284, r_226_285, r_226_286, r_226_287, r_226_288, r_226_289, r_226_290, r_226_291, r_226_292, r_226_295, r_226_296, r_226_297, r_226_298, r_226_299, r_226_300, r_226_301, r_226_302, r_226_303, r_226_304, r_226_305, r_226_306, r_226_307, r_226_308, r_226_309, r_226_310, r_226_311, r_226_314, s0, f0, g1, g2, nI_add, ia_7 (show i + 1 < L by omega) (show L < 2 ^ 31 by omega), ia_7 (show i + 2 < L by omega) (show L < 2 ^ 31 by omega), ia_7 (show i + 3 < L by omega) (show L < 2 ^ 31 by omega), e1, e2]
  exact if_pos True.intro
theorem lk_3 {L c1 c2 i : Nat} {xs : Nat → Int32} {X : icH} (I : INV L xs c1 c2 X) (hL : L ≤ 3072) (hi : i + 6 ≤ L) : ∃ Y, INV L xs c1 c2 Y ∧ icE 226 319 [.ref icSc, .ref 0, .ref 90, .int (nI i)] [] X = icE 226 1441 [.ref icSc, .ref 0, .ref 90, .int (nI i)] [] Y := by
  obtain ⟨q, X', Y, e1, e2, ⟨g1, fs, g2⟩, J⟩ := st_ice I (xs (i + 1)) (xs (i + 2)) (xs (i + 3)) (xs (i + 4)) (xs (i + 5))
  obtain ⟨⟨f1, f0⟩, s0⟩ := INV_r I
  refine ⟨Y, J, ?_⟩
  simp only [SA, r_226_319, r_226_320, r_226_321, r_226_322, r_226_323, r_226_324, r_226_325, r_226_326, r_226_327, r_226_328, r_226_329, r_226_330, r_226_331, r_226_332, r_226_333, r_226_334, r_226_335, r_226_336, r_226_337, r_226_338, r_226_339, r_226_340, r_226_341, r_226_342, r_226_343, r_226_344, r_226_345, r_226_348, r_226_349, r_226_350, r_226_351, r_226_352, r_226_353, r_226_354, r_226_355, r_226_356, r_226_357, r_226_358, r_226_359, r_226_360, r_226_361, r_226_362, r_226_363, r_226_364, r_226_365, r_226_366, r_226_367, r_226_368, r_226_369, r_226_370, r_226_371, r_226_372, r_226_373, r_226_374, r_226_377, s0, f0, g1, g2, nI_add, ia_7 (show i + 1 < L by omega) (show L < 2 ^ 31 by omega), ia_7 (show i + 2 < L by omega) (show L < 2 ^ 31 by omega), ia_7 (show i + 3 < L by omega) (show L < 2 ^ 31 by omega), ia_7 (show i + 4 < L by omega) (show L < 2 ^ 31 by omega), ia_7 (show i + 5 < L by omega) (show L < 2 ^ 31 by omega), e1, e2]
  exact if_pos True.intro
theorem lk_4 {L c1 c2 i : Nat} {xs : Nat → Int32} {X : icH} (I : INV L xs c1 c2 X) (hL : L ≤ 3072) (hi : i + 6 ≤ L) : ∃ Y, INV L xs c1 c2 Y ∧ icE 226 382 [.ref icSc, .ref 0, .ref 90, .int (nI i)] [] X = icE 226 1441 [.ref icSc, .ref 0, .ref 90, .int (nI i)] [] Y := by
  obtain ⟨q, X', Y, e1, e2, ⟨g1, fs, g2⟩, J⟩ := st_type I (xs (i + 1))
  obtain ⟨⟨f1, f0⟩, s0⟩ := INV_r I
  refine ⟨Y, J, ?_⟩
  simp only [SA, r_226_382, r_226_383, r_226_384, r_226_385, r_226_386, r_226_387, r_226_388, r_226_391, r_226_392, r_226_393, r_226_394, r_226_395, r_226_396, r_226_397, r_226_400, s0, f0, g1, g2, nI_add, ia_7 (show i + 1 < L by omega) (show L < 2 ^ 31 by omega), e1, e2]
  exact if_pos True.intro
theorem lk_5 {L c1 c2 i : Nat} {xs : Nat → Int32} {X : icH} (I : INV L xs c1 c2 X) (hL : L ≤ 3072) (hi : i + 6 ≤ L) : ∃ Y, INV L xs c1 c2 Y ∧ icE 226 405 [.ref icSc, .ref 0, .ref 90, .int (nI i)] [] X = icE 226 1441 [.ref icSc, .ref 0, .ref 90, .int (nI i)] [] Y := by
  obtain ⟨q, X', Y, e1, e2, ⟨g1, fs, g2⟩, J⟩ := st_clear I 
  obtain ⟨⟨f1, f0⟩, s0⟩ := INV_r I
  refine ⟨Y, J, ?_⟩
  simp only [SA, r_226_405, r_226_406, r_226_409, r_226_410, r_226_413, s0, f0, g1, g2, nI_add, e1, e2]
  exact if_pos True.intro
theorem lk_6 {L c1 c2 i : Nat} {xs : Nat → Int32} {X : icH} (I : INV L xs c1 c2 X) (hL : L ≤ 3072) (hi : i + 6 ≤ L) : ∃ Y, INV L xs c1 c2 Y ∧ icE 226 418 [.ref icSc, .ref 0, .ref 90, .int (nI i)] [] X = icE 226 1441 [.ref icSc, .ref 0, .ref 90, .int (nI i)] [] Y := by
  obtain ⟨q, X', Y, e1, e2, ⟨g1, fs, g2⟩, J⟩ := st_read I 
  obtain ⟨⟨f1, f0⟩, s0⟩ := INV_r I
  refine ⟨Y, J, ?_⟩
  simp only [SA, r_226_418, r_226_419, r_226_422, r_226_423, r_226_426, s0, f0, g1, g2, nI_add, e1, e2]
  exact if_pos True.intro
theorem lk_7 {L c1 c2 i : Nat} {xs : Nat → Int32} {X : icH} (I : INV L xs c1 c2 X) (hL : L ≤ 3072) (hi : i + 6 ≤ L) : ∃ Y, INV L xs c1 c2 Y ∧ icE 226 431 [.ref icSc, .ref 0, .ref 90, .int (nI i)] [] X = icE 226 1441 [.ref icSc, .ref 0, .ref 90, .int (nI i)] [] Y := by
  obtain ⟨q, X', Y, e1, e2, ⟨g1, fs, g2⟩, J⟩ := st_hours I (xs (i + 1))
  obtain ⟨⟨f1, f0⟩, s0⟩ := INV_r I
  refine ⟨Y, J, ?_⟩
  simp only [SA, r_226_431, r_226_432, r_226_433, r_226_434, r_226_435, r_226_436, r_226_437, r_226_440, r_226_441, r_226_442, r_226_443, r_226_444, r_226_445, r_226_446, r_226_449, s0, f0, g1, g2, nI_add, ia_7 (show i + 1 < L by omega) (show L < 2 ^ 31 by omega), e1, e2]
  exact if_pos True.intro
theorem lk_8 {L c1 c2 i : Nat} {xs : Nat → Int32} {X : icH} (I : INV L xs c1 c2 X) (hL : L ≤ 3072) (hi : i + 6 ≤ L) : ∃ Y, INV L xs c1 c2 Y ∧ icE 226 454 [.ref icSc, .ref 0, .ref 90, .int (nI i)] [] X = icE 226 1441 [.ref icSc, .ref 0, .ref 90, .int (nI i)] [] Y := by
  obtain ⟨q, X', Y, e1, e2, ⟨g1, fs, g2⟩, J⟩ := st_snows I (xs (i + 1)) (xs (i + 2))
  obtain ⟨⟨f1, f0⟩, s0⟩ := INV_r I
  refine ⟨Y, J, ?_⟩
  simp only [SA, r_226_454, r_226_455, r_226_456, r_226_457, r_226_458, r_226_459, r_226_460, r_226_461, r_226_462, r_226_463, r_226_464, r_226_465, r_226_468, r_226_469, r_226_470, r_226_471, r_226_472, r_226_473, r_226_474, r_226_475, r_226_476, r_226_477, r_226_478, r_226_479, r_226_482, s0, f0, g1, g2, nI_add, ia_7 (show i + 1 < L by omega) (show L < 2 ^ 31 by omega), ia_7 (show i + 2 < L by omega) (show L < 2 ^ 31 by omega), e1, e2]
  exact if_pos True.intro
theorem lk_9 {L c1 c2 i : Nat} {xs : Nat → Int32} {X : icH} (I : INV L xs c1 c2 X) (hL : L ≤ 3072) (hi : i + 6 ≤ L) : ∃ Y, INV L xs c1 c2 Y ∧ icE 226 487 [.ref icSc, .ref 0, .ref 90, .int (nI i)] [] X = icE 226 1441 [.ref icSc, .ref 0, .ref 90, .int (nI i)] [] Y := by
  obtain ⟨q, X', Y, e1, e2, ⟨g1, fs, g2⟩, J⟩ := st_heats I (xs (i + 1)) (xs (i + 2))
  obtain ⟨⟨f1, f0⟩, s0⟩ := INV_r I
  refine ⟨Y, J, ?_⟩
  simp only [SA, r_226_487, r_226_488, r_226_489, r_226_490, r_226_491, r_226_492, r_226_493, r_226_494, r_226_495, r_226_496, r_226_497, r_226_498, r_226_501, r_226_502, r_226_503, r_226_504, r_226_505, r_226_506, r_226_507, r_226_508, r_226_509, r_226_510, r_226_511, r_226_512, r_226_515, s0, f0, g1, g2, nI_add, ia_7 (show i + 1 < L by omega) (show L < 2 ^ 31 by omega), ia_7 (show i + 2 < L by omega) (show L < 2 ^ 31 by omega), e1, e2]
  exact if_pos True.intro
theorem lk_10 {L c1 c2 i : Nat} {xs : Nat → Int32} {X : icH} (I : INV L xs c1 c2 X) (hL : L ≤ 3072) (hi : i + 6 ≤ L) : ∃ Y, INV L xs c1 c2 Y ∧ icE 226 520 [.ref icSc, .ref 0, .ref 90, .int (nI i)] [] X = icE 226 1441 [.ref icSc, .ref 0, .ref 90, .int (nI i)] [] Y := by
  obtain ⟨q, X', Y, e1, e2, ⟨g1, fs, g2⟩, J⟩ := st_knocks I (xs (i + 1))
  obtain ⟨⟨f1, f0⟩, s0⟩ := INV_r I
  refine ⟨Y, J, ?_⟩
  simp only [SA, r_226_520, r_226_521, r_226_522, r_226_523, r_226_524, r_226_525, r_226_526, r_226_529, r_226_530, r_226_531, r_226_532, r_226_533, r_226_534, r_226_535, r_226_538, s0, f0, g1, g2, nI_add, ia_7 (show i + 1 < L by omega) (show L < 2 ^ 31 by omega), e1, e2]
  exact if_pos True.intro
theorem lk_11 {L c1 c2 i : Nat} {xs : Nat → Int32} {X : icH} (I : INV L xs c1 c2 X) (hL : L ≤ 3072) (hi : i + 6 ≤ L) : ∃ Y, INV L xs c1 c2 Y ∧ icE 226 543 [.ref icSc, .ref 0, .ref 90, .int (nI i)] [] X = icE 226 1441 [.ref icSc, .ref 0, .ref 90, .int (nI i)] [] Y := by
  obtain ⟨q, X', Y, e1, e2, ⟨g1, fs, g2⟩, J⟩ := st_undo I 
  obtain ⟨⟨f1, f0⟩, s0⟩ := INV_r I
  refine ⟨Y, J, ?_⟩
  simp only [SA, r_226_543, r_226_544, r_226_547, r_226_548, r_226_551, s0, f0, g1, g2, nI_add, e1, e2]
  exact if_pos True.intro
theorem lk_12 {L c1 c2 i : Nat} {xs : Nat → Int32} {X : icH} (I : INV L xs c1 c2 X) (hL : L ≤ 3072) (hi : i + 6 ≤ L) : ∃ Y, INV L xs c1 c2 Y ∧ icE 226 556 [.ref icSc, .ref 0, .ref 90, .int (nI i)] [] X = icE 226 1441 [.ref icSc, .ref 0, .ref 90, .int (nI i)] [] Y := by
  obtain ⟨q, X', Y, e1, e2, ⟨g1, fs, g2⟩, J⟩ := st_of I (xs (i + 1)) (xs (i + 2))
  obtain ⟨⟨f1, f0⟩, s0⟩ := INV_r I
  refine ⟨Y, J, ?_⟩
  simp only [SA, r_226_556, r_226_557, r_226_558, r_226_559, r_226_560, r_226_561, r_226_562, r_226_563, r_226_564, r_226_565, r_226_566, r_226_567, r_226_570, r_226_571, r_226_572, r_226_573, r_226_574, r_226_575, r_226_576, r_226_577, r_226_578, r_226_579, r_226_580, r_226_581, r_226_584, s0, f0, g1, g2, nI_add, ia_7 (show i + 1 < L by omega) (show L < 2 ^ 31 by omega), ia_7 (show i + 2 < L by omega) (show L < 2 ^ 31 by omega), e1, e2]
  exact if_pos True.intro
theorem lk_13 {L c1 c2 i : Nat} {xs : Nat → Int32} {X : icH} (I : INV L xs c1 c2 X) (hL : L ≤ 3072) (hi : i + 6 ≤ L) : ∃ Y, INV L xs c1 c2 Y ∧ icE 226 589 [.ref icSc, .ref 0, .ref 90, .int (nI i)] [] X = icE 226 1441 [.ref icSc, .ref 0, .ref 90, .int (nI i)] [] Y := by
  obtain ⟨q, X', Y, e1, e2, ⟨g1, fs, g2⟩, J⟩ := st_more I (xs (i + 1))
  obtain ⟨⟨f1, f0⟩, s0⟩ := INV_r I
  refine ⟨Y, J, ?_⟩
  simp only [SA, r_226_589, r_226_590, r_226_591, r_226_592, r_226_593, r_226_594, r_226_595, r_226_598, r_226_599, r_226_600, r_226_601, r_226_602, r_226_603, r_226_604, r_226_607, s0, f0, g1, g2, nI_add, ia_7 (show i + 1 < L by omega) (show L < 2 ^ 31 by omega), e1, e2]
  exact if_pos True.intro
theorem lk_14 {L c1 c2 i : Nat} {xs : Nat → Int32} {X : icH} (I : INV L xs c1 c2 X) (hL : L ≤ 3072) (hi : i + 6 ≤ L) : ∃ Y, INV L xs c1 c2 Y ∧ icE 226 612 [.ref icSc, .ref 0, .ref 90, .int (nI i)] [] X = icE 226 1441 [.ref icSc, .ref 0, .ref 90, .int (nI i)] [] Y := by
  obtain ⟨q, X', Y, e1, e2, ⟨g1, fs, g2⟩, J⟩ := st_about I (xs (i + 1)) (xs (i + 2))
  obtain ⟨⟨f1, f0⟩, s0⟩ := INV_r I
  refine ⟨Y, J, ?_⟩
  simp only [SA, r_226_612, r_226_613, r_226_614, r_226_615, r_226_616, r_226_617, r_226_618, r_226_619, r_226_620, r_226_621, r_226_622, r_226_623, r_226_626, r_226_627, r_226_628, r_226_629, r_226_630, r_226_631, r_226_632, r_226_633, r_226_634, r_226_635, r_226_636, r_226_637, r_226_640, s0, f0, g1, g2, nI_add, ia_7 (show i + 1 < L by omega) (show L < 2 ^ 31 by omega), ia_7 (show i + 2 < L by omega) (show L < 2 ^ 31 by omega), e1, e2]
  exact if_pos True.intro
theorem lk_15 {L c1 c2 i : Nat} {xs : Nat → Int32} {X : icH} (I : INV L xs c1 c2 X) (hL : L ≤ 3072) (hi : i + 6 ≤ L) : ∃ Y, INV L xs c1 c2 Y ∧ icE 226 645 [.ref icSc, .ref 0, .ref 90, .int (nI i)] [] X = icE 226 1441 [.ref icSc, .ref 0, .ref 90, .int (nI i)] [] Y := by
  obtain ⟨q, X', Y, e1, e2, ⟨g1, fs, g2⟩, J⟩ := st_warmth I (xs (i + 1))
  obtain ⟨⟨f1, f0⟩, s0⟩ := INV_r I
  refine ⟨Y, J, ?_⟩
  simp only [SA, r_226_645, r_226_646, r_226_647, r_226_648, r_226_649, r_226_650, r_226_651, r_226_654, r_226_655, r_226_656, r_226_657, r_226_658, r_226_659, r_226_660, r_226_663, s0, f0, g1, g2, nI_add, ia_7 (show i + 1 < L by omega) (show L < 2 ^ 31 by omega), e1, e2]
  exact if_pos True.intro
theorem lk_16 {L c1 c2 i : Nat} {xs : Nat → Int32} {X : icH} (I : INV L xs c1 c2 X) (hL : L ≤ 3072) (hi : i + 6 ≤ L) : ∃ Y, INV L xs c1 c2 Y ∧ icE 226 668 [.ref icSc, .ref 0, .ref 90, .int (nI i)] [] X = icE 226 1441 [.ref icSc, .ref 0, .ref 90, .int (nI i)] [] Y := by
  obtain ⟨q, X', Y, e1, e2, ⟨g1, fs, g2⟩, J⟩ := st_ahead I (xs (i + 1)) (xs (i + 2)) (xs (i + 3))
  obtain ⟨⟨f1, f0⟩, s0⟩ := INV_r I
  refine ⟨Y, J, ?_⟩
  simp only [SA, r_226_668, r_226_669, r_226_670, r_226_671, r_226_672, r_226_673, r_226_674, r_226_675, r_226_676, r_226_677, r_226_678, r_226_679, r_226_680, r_226_681, r_226_682, r_226_683, r_226_684, r_226_687, r_226_688, r_226_689, r_226_690, r_226_691, r_226_692, r_226_693, r_226_694, r_226_695, r_226_696, r_226_697, r_226_698, r_226_699, r_226_700, r_226_701, r_226_702, r_226_703, r_226_706, s0, f0, g1, g2, nI_add, ia_7 (show i + 1 < L by omega) (show L < 2 ^ 31 by omega), ia_7 (show i + 2 < L by omega) (show L < 2 ^ 31 by omega), ia_7 (show i + 3 < L by omega) (show L < 2 ^ 31 by omega), e1, e2]
  exact if_pos True.intro
theorem lk_17 {L c1 c2 i : Nat} {xs : Nat → Int32} {X : icH} (I : INV L xs c1 c2 X) (hL : L ≤ 3072) (hi : i + 6 ≤ L) : ∃ Y, INV L xs c1 c2 Y ∧ icE 226 711 [.ref icSc, .ref 0, .ref 90, .int (nI i)] [] X = icE 226 1441 [.ref icSc, .ref 0, .ref 90, .int (nI i)] [] Y := by
  obtain ⟨q, X', Y, e1, e2, ⟨g1, fs, g2⟩, J⟩ := st_fall I (xs (i + 1))
  obtain ⟨⟨f1, f0⟩, s0⟩ := INV_r I
  refine ⟨Y, J, ?_⟩
  simp only [SA, r_226_711, r_226_712, r_226_713, r_226_714, r_226_715, r_226_716, r_226_717, r_226_720, r_226_721, r_226_722, r_226_723, r_226_724, r_226_725, r_226_726, r_226_729, s0, f0, g1, g2, nI_add, ia_7 (show i + 1 < L by omega) (show L < 2 ^ 31 by omega), e1, e2]
  exact if_pos True.intro
theorem lk_18 {L c1 c2 i : Nat} {xs : Nat → Int32} {X : icH} (I : INV L xs c1 c2 X) (hL : L ≤ 3072) (hi : i + 6 ≤ L) : ∃ Y, INV L xs c1 c2 Y ∧ icE 226 734 [.ref icSc, .ref 0, .ref 90, .int (nI i)] [] X = icE 226 1441 [.ref icSc, .ref 0, .ref 90, .int (nI i)] [] Y := by
  obtain ⟨q, X', Y, e1, e2, ⟨g1, fs, g2⟩, J⟩ := st_first I 
  obtain ⟨⟨f1, f0⟩, s0⟩ := INV_r I
  refine ⟨Y, J, ?_⟩
  simp only [SA, r_226_734, r_226_735, r_226_738, r_226_739, r_226_742, s0, f0, g1, g2, nI_add, e1, e2]
  exact if_pos True.intro
theorem lk_19 {L c1 c2 i : Nat} {xs : Nat → Int32} {X : icH} (I : INV L xs c1 c2 X) (hL : L ≤ 3072) (hi : i + 6 ≤ L) : ∃ Y, INV L xs c1 c2 Y ∧ icE 226 747 [.ref icSc, .ref 0, .ref 90, .int (nI i)] [] X = icE 226 1441 [.ref icSc, .ref 0, .ref 90, .int (nI i)] [] Y := by
  obtain ⟨q, X', Y, e1, e2, ⟨g1, fs, g2⟩, J⟩ := st_order I (xs (i + 1))
  obtain ⟨⟨f1, f0⟩, s0⟩ := INV_r I
  refine ⟨Y, J, ?_⟩
  simp only [SA, r_226_747, r_226_748, r_226_749, r_226_750, r_226_751, r_226_752, r_226_753, r_226_756, r_226_757, r_226_758, r_226_759, r_226_760, r_226_761, r_226_762, r_226_765, s0, f0, g1, g2, nI_add, ia_7 (show i + 1 < L by omega) (show L < 2 ^ 31 by omega), e1, e2]
  exact if_pos True.intro
theorem lk_20 {L c1 c2 i : Nat} {xs : Nat → Int32} {X : icH} (I : INV L xs c1 c2 X) (hL : L ≤ 3072) (hi : i + 6 ≤ L) : ∃ Y, INV L xs c1 c2 Y ∧ icE 226 770 [.ref icSc, .ref 0, .ref 90, .int (nI i)] [] X = icE 226 1441 [.ref icSc, .ref 0, .ref 90, .int (nI i)] [] Y := by
  obtain ⟨q, X', Y, e1, e2, ⟨g1, fs, g2⟩, J⟩ := st_path I 
  obtain ⟨⟨f1, f0⟩, s0⟩ := INV_r I
  refine ⟨Y, J, ?_⟩
  simp only [SA, r_226_770, r_226_771, r_226_774, r_226_775, r_226_778, s0, f0, g1, g2, nI_add, e1, e2]
  exact if_pos True.intro
theorem lk_21 {L c1 c2 i : Nat} {xs : Nat → Int32} {X : icH} (I : INV L xs c1 c2 X) (hL : L ≤ 3072) (hi : i + 6 ≤ L) : ∃ Y, INV L xs c1 c2 Y ∧ icE 226 783 [.ref icSc, .ref 0, .ref 90, .int (nI i)] [] X = icE 226 1441 [.ref icSc, .ref 0, .ref 90, .int (nI i)] [] Y := by
  obtain ⟨q, X', Y, e1, e2, ⟨g1, fs, g2⟩, J⟩ := st_least I (xs (i + 1))
  obtain ⟨⟨f1, f0⟩, s0⟩ := INV_r I
  refine ⟨Y, J, ?_⟩
  simp only [SA, r_226_783, r_226_784, r_226_785, r_226_786, r_226_787, r_226_788, r_226_789, r_226_792, r_226_793, r_226_794, r_226_795, r_226_796, r_226_797, r_226_798, r_226_801, s0, f0, g1, g2, nI_add, ia_7 (show i + 1 < L by omega) (show L < 2 ^ 31 by omega), e1, e2]
  exact if_pos True.intro
theorem lk_22 {L c1 c2 i : Nat} {xs : Nat → Int32} {X : icH} (I : INV L xs c1 c2 X) (hL : L ≤ 3072) (hi : i + 6 ≤ L) : ∃ Y, INV L xs c1 c2 Y ∧ icE 226 806 [.ref icSc, .ref 0, .ref 90, .int (nI i)] [] X = icE 226 1441 [.ref icSc, .ref 0, .ref 90, .int (nI i)] [] Y := by
  obtain ⟨q, X', Y, e1, e2, ⟨g1, fs, g2⟩, J⟩ := st_peak I (xs (i + 1)) (xs (i + 2))
  obtain ⟨⟨f1, f0⟩, s0⟩ := INV_r I
  refine ⟨Y, J, ?_⟩
  simp only [SA, r_226_806, r_226_807, r_226_808, r_226_809, r_226_810, r_226_811, r_226_812, r_226_813, r_226_814, r_226_815, r_226_816, r_226_817, r_226_820, r_226_821, r_226_822, r_226_823, r_226_824, r_226_825, r_226_826, r_226_827, r_226_828, r_226_829, r_226_830, r_226_831, r_226_834, s0, f0, g1, g2, nI_add, ia_7 (show i + 1 < L by omega) (show L < 2 ^ 31 by omega), ia_7 (show i + 2 < L by omega) (show L < 2 ^ 31 by omega), e1, e2]
  exact if_pos True.intro
theorem lk_23 {L c1 c2 i : Nat} {xs : Nat → Int32} {X : icH} (I : INV L xs c1 c2 X) (hL : L ≤ 3072) (hi : i + 6 ≤ L) : ∃ Y, INV L xs c1 c2 Y ∧ icE 226 839 [.ref icSc, .ref 0, .ref 90, .int (nI i)] [] X = icE 226 1441 [.ref icSc, .ref 0, .ref 90, .int (nI i)] [] Y := by
  obtain ⟨q, X', Y, e1, e2, ⟨g1, fs, g2⟩, J⟩ := st_most I (xs (i + 1)) (xs (i + 2))
  obtain ⟨⟨f1, f0⟩, s0⟩ := INV_r I
  refine ⟨Y, J, ?_⟩
  simp only [SA, r_226_839, r_226_840, r_226_841, r_226_842, r_226_843, r_226_844, r_226_845, r_226_846, r_226_847, r_226_848, r_226_849, r_226_850, r_226_853, r_226_854, r_226_855, r_226_856, r_226_857, r_226_858, r_226_859, r_226_860, r_226_861, r_226_862, r_226_863, r_226_864, r_226_867, s0, f0, g1, g2, nI_add, ia_7 (show i + 1 < L by omega) (show L < 2 ^ 31 by omega), ia_7 (show i + 2 < L by omega) (show L < 2 ^ 31 by omega), e1, e2]
  exact if_pos True.intro
theorem lk_24 {L c1 c2 i : Nat} {xs : Nat → Int32} {X : icH} (I : INV L xs c1 c2 X) (hL : L ≤ 3072) (hi : i + 6 ≤ L) : ∃ Y, INV L xs c1 c2 Y ∧ icE 226 872 [.ref icSc, .ref 0, .ref 90, .int (nI i)] [] X = icE 226 1441 [.ref icSc, .ref 0, .ref 90, .int (nI i)] [] Y := by
  obtain ⟨q, X', Y, e1, e2, ⟨g1, fs, g2⟩, J⟩ := st_seen I (xs (i + 1)) (xs (i + 2)) (xs (i + 3)) (xs (i + 4))
  obtain ⟨⟨f1, f0⟩, s0⟩ := INV_r I
  refine ⟨Y, J, ?_⟩
  simp only [SA, r_226_872, r_226_873, r_226_874, r_226_875, r_226_876, r_226_877, r_226_878, r_226_879, r_226_880, r_226_881, r_226_882, r_226_883, r_226_884, r_226_885, r_226_886, r_226_887, r_226_888, r_226_889, r_226_890, r_226_891, r_226_892, r_226_893, r_226_896, r_226_897, r_226_898, r_226_899, r_226_900, r_226_901, r_226_902, r_226_903, r_226_904, r_226_905, r_226_906, r_226_907, r_226_908, r_226_909, r_226_910, r_226_911, r_226_912, r_226_913, r_226_914, r_226_915, r_226_916, r_226_917, r_226_920, s0, f0, g1, g2, nI_add, ia_7 (show i + 1 < L by omega) (show L < 2 ^ 31 by omega), ia_7 (show i + 2 < L by omega) (show L < 2 ^ 31 by omega), ia_7 (show i + 3 < L by omega) (show L < 2 ^ 31 by omega), ia_7 (show i + 4 < L by omega) (show L < 2 ^ 31 by omega), e1, e2]
  exact if_pos True.intro
theorem lk_25 {L c1 c2 i : Nat} {xs : Nat → Int32} {X : icH} (I : INV L xs c1 c2 X) (hL : L ≤ 3072) (hi : i + 6 ≤ L) : ∃ Y, INV L xs c1 c2 Y ∧ icE 226 925 [.ref icSc, .ref 0, .ref 90, .int (nI i)] [] X = icE 226 1441 [.ref icSc, .ref 0, .ref 90, .int (nI i)] [] Y := by
  obtain ⟨q, X', Y, e1, e2, ⟨g1, fs, g2⟩, J⟩ := st_warms I (xs (i + 1))
  obtain ⟨⟨f1, f0⟩, s0⟩ := INV_r I
  refine ⟨Y, J, ?_⟩
  simp only [SA, r_226_925, r_226_926, r_226_927, r_226_928, r_226_929, r_226_930, r_226_931, r_226_934, r_226_935, r_226_936, r_226_937, r_226_938, r_226_939, r_226_940, r_226_943, s0, f0, g1, g2, nI_add, ia_7 (show i + 1 < L by omega) (show L < 2 ^ 31 by omega), e1, e2]
  exact if_pos True.intro
theorem lk_26 {L c1 c2 i : Nat} {xs : Nat → Int32} {X : icH} (I : INV L xs c1 c2 X) (hL : L ≤ 3072) (hi : i + 6 ≤ L) : ∃ Y, INV L xs c1 c2 Y ∧ icE 226 948 [.ref icSc, .ref 0, .ref 90, .int (nI i)] [] X = icE 226 1441 [.ref icSc, .ref 0, .ref 90, .int (nI i)] [] Y := by
  obtain ⟨q, X', Y, e1, e2, ⟨g1, fs, g2⟩, J⟩ := st_tell I (xs (i + 1))
  obtain ⟨⟨f1, f0⟩, s0⟩ := INV_r I
  refine ⟨Y, J, ?_⟩
  simp only [SA, r_226_948, r_226_949, r_226_950, r_226_951, r_226_952, r_226_953, r_226_954, r_226_957, r_226_958, r_226_959, r_226_960, r_226_961, r_226_962, r_226_963, r_226_966, s0, f0, g1, g2, nI_add, ia_7 (show i + 1 < L by omega) (show L < 2 ^ 31 by omega), e1, e2]
  exact if_pos True.intro
theorem lk_27 {L c1 c2 i : Nat} {xs : Nat → Int32} {X : icH} (I : INV L xs c1 c2 X) (hL : L ≤ 3072) (hi : i + 6 ≤ L) : ∃ Y, INV L xs c1 c2 Y ∧ icE 226 971 [.ref icSc, .ref 0, .ref 90, .int (nI i)] [] X = icE 226 1441 [.ref icSc, .ref 0, .ref 90, .int (nI i)] [] Y := by
  obtain ⟨q, X', Y, e1, e2, ⟨g1, fs, g2⟩, J⟩ := st_note I (xs (i + 1)) (xs (i + 2)) (xs (i + 3)) (xs (i + 4)) (xs (i + 5))
  obtain ⟨⟨f1, f0⟩, s0⟩ := INV_r I
  refine ⟨Y, J, ?_⟩
  simp only [SA, r_226_971, r_226_972, r_226_973, r_226_974, r_226_975, r_226_976, r_226_977, r_226_978, r_226_979, r_226_980, r_226_981, r_226_982, r_226_983, r_226_984, r_226_985, r_226_986, r_226_987, r_226_988, r_226_989, r_226_990, r_226_991, r_226_992, r_226_993, r_226_994, r_226_995, r_226_996, r_226_997, r_226_1000, r_226_1001, r_226_1002, r_226_1003, r_226_1004, r_226_1005, r_226_1006, r_226_1007, r_226_1008, r_226_1009, r_226_1010, r_226_1011, r_226_1012, r_226_1013, r_226_1014, r_226_1015, r_226_1016, r_226_1017, r_226_1018, r_226_1019, r_226_1020, r_226_1021, r_226_1022, r_226_1023, r_226_1024, r_226_1025, r_226_1026, r_226_1029, s0, f0, g1, g2, nI_add, ia_7 (show i + 1 < L by omega) (show L < 2 ^ 31 by omega), ia_7 (show i + 2 < L by omega) (show L < 2 ^ 31 by omega), ia_7 (show i + 3 < L by omega) (show L < 2 ^ 31 by omega), ia_7 (show i + 4 < L by omega) (show L < 2 ^ 31 by omega), ia_7 (show i + 5 < L by omega) (show L < 2 ^ 31 by omega), e1, e2]
  exact if_pos True.intro
theorem lk_28 {L c1 c2 i : Nat} {xs : Nat → Int32} {X : icH} (I : INV L xs c1 c2 X) (hL : L ≤ 3072) (hi : i + 6 ≤ L) : ∃ Y, INV L xs c1 c2 Y ∧ icE 226 1034 [.ref icSc, .ref 0, .ref 90, .int (nI i)] [] X = icE 226 1441 [.ref icSc, .ref 0, .ref 90, .int (nI i)] [] Y := by
  obtain ⟨q, X', Y, e1, e2, ⟨g1, fs, g2⟩, J⟩ := st_mark I (xs (i + 1)) (xs (i + 2)) (xs (i + 3)) (xs (i + 4)) (xs (i + 5))
  obtain ⟨⟨f1, f0⟩, s0⟩ := INV_r I
  refine ⟨Y, J, ?_⟩
  simp only [SA, r_226_1034, r_226_1035, r_226_1036, r_226_1037, r_226_1038, r_226_1039, r_226_1040, r_226_1041, r_226_1042, r_226_1043, r_226_1044, r_226_1045, r_226_1046, r_226_1047, r_226_1048, r_226_1049, r_226_1050, r_226_1051, r_226_1052, r_226_1053, r_226_1054, r_226_1055, r_226_1056, r_226_1057, r_226_1058, r_226_1059, r_226_1060, r_226_1063, r_226_1064, r_226_1065, r_226_1066, r_226_1067, r_226_1068, r_226_1069, r_226_1070, r_226_1071, r_226_1072, r_226_1073, r_226_1074, r_226_1075, r_226_1076, r_226_1077, r_226_1078, r_226_1079, r_226_1080, r_226_1081, r_226_1082, r_226_1083, r_226_1084, r_226_1085, r_226_1086, r_226_1087, r_226_1088, r_226_1089, r_226_1092, s0, f0, g1, g2, nI_add, ia_7 (show i + 1 < L by omega) (show L < 2 ^ 31 by omega), ia_7 (show i + 2 < L by omega) (show L < 2 ^ 31 by omega), ia_7 (show i + 3 < L by omega) (show L < 2 ^ 31 by omega), ia_7 (show i + 4 < L by omega) (show L < 2 ^ 31 by omega), ia_7 (show i + 5 < L by omega) (show L < 2 ^ 31 by omega), e1, e2]
  exact if_pos True.intro
theorem lk_29 {L c1 c2 i : Nat} {xs : Nat → Int32} {X : icH} (I : INV L xs c1 c2 X) (hL : L ≤ 3072) (hi : i + 6 ≤ L) : ∃ Y, INV L xs c1 c2 Y ∧ icE 226 1097 [.ref icSc, .ref 0, .ref 90, .int (nI i)] [] X = icE 226 1441 [.ref icSc, .ref 0, .ref 90, .int (nI i)] [] Y := by
  obtain ⟨q, X', Y, e1, e2, ⟨g1, fs, g2⟩, J⟩ := st_forget I (xs (i + 1))
  obtain ⟨⟨f1, f0⟩, s0⟩ := INV_r I
  refine ⟨Y, J, ?_⟩
  simp only [SA, r_226_1097, r_226_1098, r_226_1099, r_226_1100, r_226_1101, r_226_1102, r_226_1103, r_226_1106, r_226_1107, r_226_1108, r_226_1109, r_226_1110, r_226_1111, r_226_1112, r_226_1115, s0, f0, g1, g2, nI_add, ia_7 (show i + 1 < L by omega) (show L < 2 ^ 31 by omega), e1, e2]
  exact if_pos True.intro
theorem lk_30 {L c1 c2 i : Nat} {xs : Nat → Int32} {X : icH} (I : INV L xs c1 c2 X) (hL : L ≤ 3072) (hi : i + 6 ≤ L) : ∃ Y, INV L xs c1 c2 Y ∧ icE 226 1120 [.ref icSc, .ref 0, .ref 90, .int (nI i)] [] X = icE 226 1441 [.ref icSc, .ref 0, .ref 90, .int (nI i)] [] Y := by
  obtain ⟨q, X', Y, e1, e2, ⟨g1, fs, g2⟩, J⟩ := st_is I (xs (i + 1))
  obtain ⟨⟨f1, f0⟩, s0⟩ := INV_r I
  refine ⟨Y, J, ?_⟩
  simp only [SA, r_226_1120, r_226_1121, r_226_1122, r_226_1123, r_226_1124, r_226_1125, r_226_1126, r_226_1129, r_226_1130, r_226_1131, r_226_1132, r_226_1133, r_226_1134, r_226_1135, r_226_1138, s0, f0, g1, g2, nI_add, ia_7 (show i + 1 < L by omega) (show L < 2 ^ 31 by omega), e1, e2]
  exact if_pos True.intro
theorem lk_31 {L c1 c2 i : Nat} {xs : Nat → Int32} {X : icH} (I : INV L xs c1 c2 X) (hL : L ≤ 3072) (hi : i + 6 ≤ L) : ∃ Y, INV L xs c1 c2 Y ∧ icE 226 1143 [.ref icSc, .ref 0, .ref 90, .int (nI i)] [] X = icE 226 1441 [.ref icSc, .ref 0, .ref 90, .int (nI i)] [] Y := by
  obtain ⟨q, X', Y, e1, e2, ⟨g1, fs, g2⟩, J⟩ := st_look I (xs (i + 1))
  obtain ⟨⟨f1, f0⟩, s0⟩ := INV_r I
  refine ⟨Y, J, ?_⟩
  simp only [SA, r_226_1143, r_226_1144, r_226_1145, r_226_1146, r_226_1147, r_226_1148, r_226_1149, r_226_1152, r_226_1153, r_226_1154, r_226_1155, r_226_1156, r_226_1157, r_226_1158, r_226_1161, s0, f0, g1, g2, nI_add, ia_7 (show i + 1 < L by omega) (show L < 2 ^ 31 by omega), e1, e2]
  exact if_pos True.intro
theorem lk_32 {L c1 c2 i : Nat} {xs : Nat → Int32} {X : icH} (I : INV L xs c1 c2 X) (hL : L ≤ 3072) (hi : i + 6 ≤ L) : ∃ Y, INV L xs c1 c2 Y ∧ icE 226 1166 [.ref icSc, .ref 0, .ref 90, .int (nI i)] [] X = icE 226 1441 [.ref icSc, .ref 0, .ref 90, .int (nI i)] [] Y := by
  obtain ⟨q, X', Y, e1, e2, ⟨g1, fs, g2⟩, J⟩ := st_kinds I (xs (i + 1))
  obtain ⟨⟨f1, f0⟩, s0⟩ := INV_r I
  refine ⟨Y, J, ?_⟩
  simp only [SA, r_226_1166, r_226_1167, r_226_1168, r_226_1169, r_226_1170, r_226_1171, r_226_1172, r_226_1175, r_226_1176, r_226_1177, r_226_1178, r_226_1179, r_226_1180, r_226_1181, r_226_1184, s0, f0, g1, g2, nI_add, ia_7 (show i + 1 < L by omega) (show L < 2 ^ 31 by omega), e1, e2]
  exact if_pos True.intro
theorem lk_33 {L c1 c2 i : Nat} {xs : Nat → Int32} {X : icH} (I : INV L xs c1 c2 X) (hL : L ≤ 3072) (hi : i + 6 ≤ L) : ∃ Y, INV L xs c1 c2 Y ∧ icE 226 1189 [.ref icSc, .ref 0, .ref 90, .int (nI i)] [] X = icE 226 1441 [.ref icSc, .ref 0, .ref 90, .int (nI i)] [] Y := by
  obtain ⟨q, X', Y, e1, e2, ⟨g1, fs, g2⟩, J⟩ := st_ask I (xs (i + 1))
  obtain ⟨⟨f1, f0⟩, s0⟩ := INV_r I
  refine ⟨Y, J, ?_⟩
  simp only [SA, r_226_1189, r_226_1190, r_226_1191, r_226_1192, r_226_1193, r_226_1194, r_226_1195, r_226_1198, r_226_1199, r_226_1200, r_226_1201, r_226_1202, r_226_1203, r_226_1204, r_226_1207, s0, f0, g1, g2, nI_add, ia_7 (show i + 1 < L by omega) (show L < 2 ^ 31 by omega), e1, e2]
  exact if_pos True.intro
theorem lk_34 {L c1 c2 i : Nat} {xs : Nat → Int32} {X : icH} (I : INV L xs c1 c2 X) (hL : L ≤ 3072) (hi : i + 6 ≤ L) : ∃ Y, INV L xs c1 c2 Y ∧ icE 226 1212 [.ref icSc, .ref 0, .ref 90, .int (nI i)] [] X = icE 226 1441 [.ref icSc, .ref 0, .ref 90, .int (nI i)] [] Y := by
  obtain ⟨q, X', Y, e1, e2, ⟨g1, fs, g2⟩, J⟩ := st_sticks I (xs (i + 1))
  obtain ⟨⟨f1, f0⟩, s0⟩ := INV_r I
  refine ⟨Y, J, ?_⟩
  simp only [SA, r_226_1212, r_226_1213, r_226_1214, r_226_1215, r_226_1216, r_226_1217, r_226_1218, r_226_1221, r_226_1222, r_226_1223, r_226_1224, r_226_1225, r_226_1226, r_226_1227, r_226_1230, s0, f0, g1, g2, nI_add, ia_7 (show i + 1 < L by omega) (show L < 2 ^ 31 by omega), e1, e2]
  exact if_pos True.intro
theorem lk_35 {L c1 c2 i : Nat} {xs : Nat → Int32} {X : icH} (I : INV L xs c1 c2 X) (hL : L ≤ 3072) (hi : i + 6 ≤ L) : ∃ Y, INV L xs c1 c2 Y ∧ icE 226 1235 [.ref icSc, .ref 0, .ref 90, .int (nI i)] [] X = icE 226 1441 [.ref icSc, .ref 0, .ref 90, .int (nI i)] [] Y := by
  obtain ⟨q, X', Y, e1, e2, ⟨g1, fs, g2⟩, J⟩ := st_odds I (xs (i + 1)) (xs (i + 2)) (xs (i + 3))
  obtain ⟨⟨f1, f0⟩, s0⟩ := INV_r I
  refine ⟨Y, J, ?_⟩
  simp only [SA, r_226_1235, r_226_1236, r_226_1237, r_226_1238, r_226_1239, r_226_1240, r_226_1241, r_226_1242, r_226_1243, r_226_1244, r_226_1245, r_226_1246, r_226_1247, r_226_1248, r_226_1249, r_226_1250, r_226_1251, r_226_1254, r_226_1255, r_226_1256, r_226_1257, r_226_1258, r_226_1259, r_226_1260, r_226_1261, r_226_1262, r_226_1263, r_226_1264, r_226_1265, r_226_1266, r_226_1267, r_226_1268, r_226_1269, r_226_1270, r_226_1273, s0, f0, g1, g2, nI_add, ia_7 (show i + 1 < L by omega) (show L < 2 ^ 31 by omega), ia_7 (show i + 2 < L by omega) (show L < 2 ^ 31 by omega), ia_7 (show i + 3 < L by omega) (show L < 2 ^ 31 by omega), e1, e2]
  exact if_pos True.intro
theorem lk_36 {L c1 c2 i : Nat} {xs : Nat → Int32} {X : icH} (I : INV L xs c1 c2 X) (hL : L ≤ 3072) (hi : i + 6 ≤ L) : ∃ Y, INV L xs c1 c2 Y ∧ icE 226 1278 [.ref icSc, .ref 0, .ref 90, .int (nI i)] [] X = icE 226 1441 [.ref icSc, .ref 0, .ref 90, .int (nI i)] [] Y := by
  obtain ⟨q, X', Y, e1, e2, ⟨g1, fs, g2⟩, J⟩ := st_winters I (xs (i + 1)) (xs (i + 2))
  obtain ⟨⟨f1, f0⟩, s0⟩ := INV_r I
  refine ⟨Y, J, ?_⟩
  simp only [SA, r_226_1278, r_226_1279, r_226_1280, r_226_1281, r_226_1282, r_226_1283, r_226_1284, r_226_1285, r_226_1286, r_226_1287, r_226_1288, r_226_1289, r_226_1292, r_226_1293, r_226_1294, r_226_1295, r_226_1296, r_226_1297, r_226_1298, r_226_1299, r_226_1300, r_226_1301, r_226_1302, r_226_1303, r_226_1306, s0, f0, g1, g2, nI_add, ia_7 (show i + 1 < L by omega) (show L < 2 ^ 31 by omega), ia_7 (show i + 2 < L by omega) (show L < 2 ^ 31 by omega), e1, e2]
  exact if_pos True.intro
theorem lk_37 {L c1 c2 i : Nat} {xs : Nat → Int32} {X : icH} (I : INV L xs c1 c2 X) (hL : L ≤ 3072) (hi : i + 6 ≤ L) : ∃ Y, INV L xs c1 c2 Y ∧ icE 226 1311 [.ref icSc, .ref 0, .ref 90, .int (nI i)] [] X = icE 226 1441 [.ref icSc, .ref 0, .ref 90, .int (nI i)] [] Y := by
  obtain ⟨q, X', Y, e1, e2, ⟨g1, fs, g2⟩, J⟩ := st_part I (xs (i + 1))
  obtain ⟨⟨f1, f0⟩, s0⟩ := INV_r I
  refine ⟨Y, J, ?_⟩
  simp only [SA, r_226_1311, r_226_1312, r_226_1313, r_226_1314, r_226_1315, r_226_1316, r_226_1317, r_226_1320, r_226_1321, r_226_1322, r_226_1323, r_226_1324, r_226_1325, r_226_1326, r_226_1329, r_226_1330, s0, f0, g1, g2, nI_add, ia_7 (show i + 1 < L by omega) (show L < 2 ^ 31 by omega), e1, e2]
  exact if_pos (lg_self q)
theorem lk_38 {L c1 c2 i : Nat} {xs : Nat → Int32} {X : icH} (I : INV L xs c1 c2 X) (hL : L ≤ 3072) (hi : i + 6 ≤ L) : ∃ Y, INV L xs c1 c2 Y ∧ icE 226 1335 [.ref icSc, .ref 0, .ref 90, .int (nI i)] [] X = icE 226 1441 [.ref icSc, .ref 0, .ref 90, .int (nI i)] [] Y := by
  obtain ⟨q, X', Y, e1, e2, ⟨g1, fs, g2⟩, J⟩ := st_image I (xs (i + 1))
  obtain ⟨⟨f1, f0⟩, s0⟩ := INV_r I
  refine ⟨Y, J, ?_⟩
  simp only [SA, r_226_1335, r_226_1336, r_226_1337, r_226_1338, r_226_1339, r_226_1340, r_226_1341, r_226_1344, r_226_1345, r_226_1346, r_226_1347, r_226_1348, r_226_1349, r_226_1350, r_226_1353, s0, f0, g1, g2, nI_add, ia_7 (show i + 1 < L by omega) (show L < 2 ^ 31 by omega), e1, e2]
  exact if_pos True.intro
theorem lk_39 {L c1 c2 i : Nat} {xs : Nat → Int32} {X : icH} (I : INV L xs c1 c2 X) (hL : L ≤ 3072) (hi : i + 6 ≤ L) : ∃ Y, INV L xs c1 c2 Y ∧ icE 226 1358 [.ref icSc, .ref 0, .ref 90, .int (nI i)] [] X = icE 226 1441 [.ref icSc, .ref 0, .ref 90, .int (nI i)] [] Y := by
  obtain ⟨q, X', Y, e1, e2, ⟨g1, fs, g2⟩, J⟩ := st_from I (xs (i + 1))
  obtain ⟨⟨f1, f0⟩, s0⟩ := INV_r I
  refine ⟨Y, J, ?_⟩
  simp only [SA, r_226_1358, r_226_1359, r_226_1360, r_226_1361, r_226_1362, r_226_1363, r_226_1364, r_226_1367, r_226_1368, r_226_1369, r_226_1370, r_226_1371, r_226_1372, r_226_1373, r_226_1376, s0, f0, g1, g2, nI_add, ia_7 (show i + 1 < L by omega) (show L < 2 ^ 31 by omega), e1, e2]
  exact if_pos True.intro
theorem lk_40 {L c1 c2 i : Nat} {xs : Nat → Int32} {X : icH} (I : INV L xs c1 c2 X) (hL : L ≤ 3072) (hi : i + 6 ≤ L) : ∃ Y, INV L xs c1 c2 Y ∧ icE 226 1381 [.ref icSc, .ref 0, .ref 90, .int (nI i)] [] X = icE 226 1441 [.ref icSc, .ref 0, .ref 90, .int (nI i)] [] Y := by
  obtain ⟨q, X', Y, e1, e2, ⟨g1, fs, g2⟩, J⟩ := st_status I (xs (i + 1))
  obtain ⟨⟨f1, f0⟩, s0⟩ := INV_r I
  refine ⟨Y, J, ?_⟩
  simp only [SA, r_226_1381, r_226_1382, r_226_1383, r_226_1384, r_226_1385, r_226_1386, r_226_1387, r_226_1390, r_226_1391, r_226_1392, r_226_1393, r_226_1394, r_226_1395, r_226_1396, r_226_1399, s0, f0, g1, g2, nI_add, ia_7 (show i + 1 < L by omega) (show L < 2 ^ 31 by omega), e1, e2]
  exact if_pos True.intro
theorem lk_41 {L c1 c2 i : Nat} {xs : Nat → Int32} {X : icH} (I : INV L xs c1 c2 X) (hL : L ≤ 3072) (hi : i + 6 ≤ L) : ∃ Y, INV L xs c1 c2 Y ∧ icE 226 1404 [.ref icSc, .ref 0, .ref 90, .int (nI i)] [] X = icE 226 1441 [.ref icSc, .ref 0, .ref 90, .int (nI i)] [] Y := by
  obtain ⟨q, X', Y, e1, e2, ⟨g1, fs, g2⟩, J⟩ := st_count I (xs (i + 1))
  obtain ⟨⟨f1, f0⟩, s0⟩ := INV_r I
  refine ⟨Y, J, ?_⟩
  simp only [SA, r_226_1404, r_226_1405, r_226_1406, r_226_1407, r_226_1408, r_226_1409, r_226_1410, r_226_1413, r_226_1414, r_226_1415, r_226_1416, r_226_1417, r_226_1418, r_226_1419, r_226_1422, s0, f0, g1, g2, nI_add, ia_7 (show i + 1 < L by omega) (show L < 2 ^ 31 by omega), e1, e2]
  exact if_pos True.intro
theorem lk_42 {L c1 c2 i : Nat} {xs : Nat → Int32} {X : icH} (I : INV L xs c1 c2 X) (hL : L ≤ 3072) (hi : i + 6 ≤ L) : ∃ Y, INV L xs c1 c2 Y ∧ icE 226 1427 [.ref icSc, .ref 0, .ref 90, .int (nI i)] [] X = icE 226 1441 [.ref icSc, .ref 0, .ref 90, .int (nI i)] [] Y := by
  obtain ⟨q, X', Y, e1, e2, ⟨g1, fs, g2⟩, J⟩ := st_digest I 
  obtain ⟨⟨f1, f0⟩, s0⟩ := INV_r I
  refine ⟨Y, J, ?_⟩
  simp only [SA, r_226_1427, r_226_1428, r_226_1431, r_226_1432, r_226_1435, r_226_1436, s0, f0, g1, g2, nI_add, e1, e2]
  exact if_pos (lg_self q)
