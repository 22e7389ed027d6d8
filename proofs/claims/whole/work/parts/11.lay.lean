/-! 11: where the cells lie -/
def LayT (V : Vw) (ld dr : Nat) : Prop := V.2.1 0 = (7, 0) ∧ V.2.1 1 = (6, 0) ∧ V.2.1 2 = (9, 240) ∧ V.2.1 3 = (5, 0) ∧ V.2.1 17 = (4, 0) ∧ V.2.1 18 = (12, 30) ∧ V.2.1 199 = (3, 0) ∧ V.2.1 200 = (9, 6) ∧ V.2.1 201 = (9, 6) ∧ V.2.1 202 = (10, 6) ∧ V.2.1 203 = (9, 10) ∧ V.2.1 204 = (0, 0) ∧ V.2.1 205 = (9, 20) ∧ V.2.1 206 = (9, 20) ∧ V.2.1 207 = (12, 2) ∧ V.2.1 208 = (9, 2) ∧ V.2.1 209 = (10, 2) ∧ V.2.2.1 0 0 = some 1 ∧ V.2.2.1 0 1 = some 3 ∧ V.2.2.1 0 2 = some 11 ∧ V.2.2.1 0 3 = some 17 ∧ V.2.2.1 0 4 = some 199 ∧ V.2.2.1 0 5 = some 204 ∧ V.2.2.1 0 6 = some 207 ∧ V.2.2.1 0 7 = some 208 ∧ V.2.2.1 0 8 = some 209 ∧ V.2.2.1 0 9 = some ld ∧ V.2.2.1 1 0 = some 2 ∧ V.2.2.1 3 0 = some 1 ∧ V.2.2.1 3 1 = some dr ∧ V.2.2.1 17 0 = some 18 ∧ V.2.2.1 199 0 = some 200 ∧ V.2.2.1 199 1 = some 201 ∧ V.2.2.1 199 2 = some 202 ∧ V.2.2.1 199 3 = some 203 ∧ V.2.2.1 204 0 = some 205 ∧ V.2.2.1 204 1 = some 206 ∧ LayE V 11 ∧ (∀ j : Nat, j < 30 → V.2.2.1 18 j = some (19 + 6 * j) ∧ LayE V (19 + 6 * j)) ∧ (∀ j : Nat, j < 2 → V.2.2.1 207 j = some (217 + 6 * j) ∧ LayE V (217 + 6 * j)) ∧ LayC V ld ∧ LayC V dr ∧ V.2.2.2 = false
theorem lt_s0 {V : Vw} {ld dr : Nat} (h : LayT V ld dr) : V.2.1 0 = (7, 0) := h.1
theorem lt_s1 {V : Vw} {ld dr : Nat} (h : LayT V ld dr) : V.2.1 1 = (6, 0) := h.2.1
theorem lt_s2 {V : Vw} {ld dr : Nat} (h : LayT V ld dr) : V.2.1 2 = (9, 240) := h.2.2.1
theorem lt_s3 {V : Vw} {ld dr : Nat} (h : LayT V ld dr) : V.2.1 3 = (5, 0) := h.2.2.2.1
theorem lt_s17 {V : Vw} {ld dr : Nat} (h : LayT V ld dr) : V.2.1 17 = (4, 0) := h.2.2.2.2.1
theorem lt_s18 {V : Vw} {ld dr : Nat} (h : LayT V ld dr) : V.2.1 18 = (12, 30) := h.2.2.2.2.2.1
theorem lt_s199 {V : Vw} {ld dr : Nat} (h : LayT V ld dr) : V.2.1 199 = (3, 0) := h.2.2.2.2.2.2.1
theorem lt_s200 {V : Vw} {ld dr : Nat} (h : LayT V ld dr) : V.2.1 200 = (9, 6) := h.2.2.2.2.2.2.2.1
theorem lt_s201 {V : Vw} {ld dr : Nat} (h : LayT V ld dr) : V.2.1 201 = (9, 6) := h.2.2.2.2.2.2.2.2.1
theorem lt_s202 {V : Vw} {ld dr : Nat} (h : LayT V ld dr) : V.2.1 202 = (10, 6) := h.2.2.2.2.2.2.2.2.2.1
theorem lt_s203 {V : Vw} {ld dr : Nat} (h : LayT V ld dr) : V.2.1 203 = (9, 10) := h.2.2.2.2.2.2.2.2.2.2.1
theorem lt_s204 {V : Vw} {ld dr : Nat} (h : LayT V ld dr) : V.2.1 204 = (0, 0) := h.2.2.2.2.2.2.2.2.2.2.2.1
theorem lt_s205 {V : Vw} {ld dr : Nat} (h : LayT V ld dr) : V.2.1 205 = (9, 20) := h.2.2.2.2.2.2.2.2.2.2.2.2.1
theorem lt_s206 {V : Vw} {ld dr : Nat} (h : LayT V ld dr) : V.2.1 206 = (9, 20) := h.2.2.2.2.2.2.2.2.2.2.2.2.2.1
theorem lt_s207 {V : Vw} {ld dr : Nat} (h : LayT V ld dr) : V.2.1 207 = (12, 2) := h.2.2.2.2.2.2.2.2.2.2.2.2.2.2.1
theorem lt_s208 {V : Vw} {ld dr : Nat} (h : LayT V ld dr) : V.2.1 208 = (9, 2) := h.2.2.2.2.2.2.2.2.2.2.2.2.2.2.2.1
theorem lt_s209 {V : Vw} {ld dr : Nat} (h : LayT V ld dr) : V.2.1 209 = (10, 2) := h.2.2.2.2.2.2.2.2.2.2.2.2.2.2.2.2.1
theorem lt_r0_0 {V : Vw} {ld dr : Nat} (h : LayT V ld dr) : V.2.2.1 0 0 = some 1 := h.2.2.2.2.2.2.2.2.2.2.2.2.2.2.2.2.2.1
theorem lt_r0_1 {V : Vw} {ld dr : Nat} (h : LayT V ld dr) : V.2.2.1 0 1 = some 3 := h.2.2.2.2.2.2.2.2.2.2.2.2.2.2.2.2.2.2.1
theorem lt_r0_2 {V : Vw} {ld dr : Nat} (h : LayT V ld dr) : V.2.2.1 0 2 = some 11 := h.2.2.2.2.2.2.2.2.2.2.2.2.2.2.2.2.2.2.2.1
theorem lt_r0_3 {V : Vw} {ld dr : Nat} (h : LayT V ld dr) : V.2.2.1 0 3 = some 17 := h.2.2.2.2.2.2.2.2.2.2.2.2.2.2.2.2.2.2.2.2.1
theorem lt_r0_4 {V : Vw} {ld dr : Nat} (h : LayT V ld dr) : V.2.2.1 0 4 = some 199 := h.2.2.2.2.2.2.2.2.2.2.2.2.2.2.2.2.2.2.2.2.2.1
theorem lt_r0_5 {V : Vw} {ld dr : Nat} (h : LayT V ld dr) : V.2.2.1 0 5 = some 204 := h.2.2.2.2.2.2.2.2.2.2.2.2.2.2.2.2.2.2.2.2.2.2.1
theorem lt_r0_6 {V : Vw} {ld dr : Nat} (h : LayT V ld dr) : V.2.2.1 0 6 = some 207 := h.2.2.2.2.2.2.2.2.2.2.2.2.2.2.2.2.2.2.2.2.2.2.2.1
theorem lt_r0_7 {V : Vw} {ld dr : Nat} (h : LayT V ld dr) : V.2.2.1 0 7 = some 208 := h.2.2.2.2.2.2.2.2.2.2.2.2.2.2.2.2.2.2.2.2.2.2.2.2.1
theorem lt_r0_8 {V : Vw} {ld dr : Nat} (h : LayT V ld dr) : V.2.2.1 0 8 = some 209 := h.2.2.2.2.2.2.2.2.2.2.2.2.2.2.2.2.2.2.2.2.2.2.2.2.2.1
theorem lt_r0_9 {V : Vw} {ld dr : Nat} (h : LayT V ld dr) : V.2.2.1 0 9 = some ld := h.2.2.2.2.2.2.2.2.2.2.2.2.2.2.2.2.2.2.2.2.2.2.2.2.2.2.1
theorem lt_r1_0 {V : Vw} {ld dr : Nat} (h : LayT V ld dr) : V.2.2.1 1 0 = some 2 := h.2.2.2.2.2.2.2.2.2.2.2.2.2.2.2.2.2.2.2.2.2.2.2.2.2.2.2.1
theorem lt_r3_0 {V : Vw} {ld dr : Nat} (h : LayT V ld dr) : V.2.2.1 3 0 = some 1 := h.2.2.2.2.2.2.2.2.2.2.2.2.2.2.2.2.2.2.2.2.2.2.2.2.2.2.2.2.1
theorem lt_r3_1 {V : Vw} {ld dr : Nat} (h : LayT V ld dr) : V.2.2.1 3 1 = some dr := h.2.2.2.2.2.2.2.2.2.2.2.2.2.2.2.2.2.2.2.2.2.2.2.2.2.2.2.2.2.1
theorem lt_r17_0 {V : Vw} {ld dr : Nat} (h : LayT V ld dr) : V.2.2.1 17 0 = some 18 := h.2.2.2.2.2.2.2.2.2.2.2.2.2.2.2.2.2.2.2.2.2.2.2.2.2.2.2.2.2.2.1
theorem lt_r199_0 {V : Vw} {ld dr : Nat} (h : LayT V ld dr) : V.2.2.1 199 0 = some 200 := h.2.2.2.2.2.2.2.2.2.2.2.2.2.2.2.2.2.2.2.2.2.2.2.2.2.2.2.2.2.2.2.1
theorem lt_r199_1 {V : Vw} {ld dr : Nat} (h : LayT V ld dr) : V.2.2.1 199 1 = some 201 := h.2.2.2.2.2.2.2.2.2.2.2.2.2.2.2.2.2.2.2.2.2.2.2.2.2.2.2.2.2.2.2.2.1
theorem lt_r199_2 {V : Vw} {ld dr : Nat} (h : LayT V ld dr) : V.2.2.1 199 2 = some 202 := h.2.2.2.2.2.2.2.2.2.2.2.2.2.2.2.2.2.2.2.2.2.2.2.2.2.2.2.2.2.2.2.2.2.1
theorem lt_r199_3 {V : Vw} {ld dr : Nat} (h : LayT V ld dr) : V.2.2.1 199 3 = some 203 := h.2.2.2.2.2.2.2.2.2.2.2.2.2.2.2.2.2.2.2.2.2.2.2.2.2.2.2.2.2.2.2.2.2.2.1
theorem lt_r204_0 {V : Vw} {ld dr : Nat} (h : LayT V ld dr) : V.2.2.1 204 0 = some 205 := h.2.2.2.2.2.2.2.2.2.2.2.2.2.2.2.2.2.2.2.2.2.2.2.2.2.2.2.2.2.2.2.2.2.2.2.1
theorem lt_r204_1 {V : Vw} {ld dr : Nat} (h : LayT V ld dr) : V.2.2.1 204 1 = some 206 := h.2.2.2.2.2.2.2.2.2.2.2.2.2.2.2.2.2.2.2.2.2.2.2.2.2.2.2.2.2.2.2.2.2.2.2.2.1
theorem lt_e11 {V : Vw} {ld dr : Nat} (h : LayT V ld dr) : LayE V 11 := h.2.2.2.2.2.2.2.2.2.2.2.2.2.2.2.2.2.2.2.2.2.2.2.2.2.2.2.2.2.2.2.2.2.2.2.2.2.1
theorem lt_a18 {V : Vw} {ld dr : Nat} (h : LayT V ld dr) : (∀ j : Nat, j < 30 → V.2.2.1 18 j = some (19 + 6 * j) ∧ LayE V (19 + 6 * j)) := h.2.2.2.2.2.2.2.2.2.2.2.2.2.2.2.2.2.2.2.2.2.2.2.2.2.2.2.2.2.2.2.2.2.2.2.2.2.2.1
theorem lt_a207 {V : Vw} {ld dr : Nat} (h : LayT V ld dr) : (∀ j : Nat, j < 2 → V.2.2.1 207 j = some (217 + 6 * j) ∧ LayE V (217 + 6 * j)) := h.2.2.2.2.2.2.2.2.2.2.2.2.2.2.2.2.2.2.2.2.2.2.2.2.2.2.2.2.2.2.2.2.2.2.2.2.2.2.2.1
theorem lt_ld {V : Vw} {ld dr : Nat} (h : LayT V ld dr) : LayC V ld := h.2.2.2.2.2.2.2.2.2.2.2.2.2.2.2.2.2.2.2.2.2.2.2.2.2.2.2.2.2.2.2.2.2.2.2.2.2.2.2.2.1
theorem lt_dr {V : Vw} {ld dr : Nat} (h : LayT V ld dr) : LayC V dr := h.2.2.2.2.2.2.2.2.2.2.2.2.2.2.2.2.2.2.2.2.2.2.2.2.2.2.2.2.2.2.2.2.2.2.2.2.2.2.2.2.2.1
theorem lt_fl {V : Vw} {ld dr : Nat} (h : LayT V ld dr) : V.2.2.2 = false := h.2.2.2.2.2.2.2.2.2.2.2.2.2.2.2.2.2.2.2.2.2.2.2.2.2.2.2.2.2.2.2.2.2.2.2.2.2.2.2.2.2.2
def LayM (V : Vw) : Prop := V.2.1 229 = (8, 0) ∧ V.2.1 230 = (9, 240) ∧ V.2.1 231 = (9, 12) ∧ V.2.1 232 = (9, 8) ∧ V.2.1 233 = (9, 8) ∧ V.2.1 234 = (9, 30) ∧ V.2.1 235 = (9, 12) ∧ V.2.1 236 = (9, 8) ∧ V.2.1 237 = (9, 30) ∧ V.2.1 238 = (9, 121) ∧ V.2.1 239 = (9, 3630) ∧ V.2.1 240 = (9, 6) ∧ V.2.1 241 = (9, 6) ∧ V.2.1 242 = (10, 6) ∧ V.2.1 243 = (9, 10) ∧ V.2.1 244 = (9, 20) ∧ V.2.1 245 = (9, 20) ∧ V.2.1 246 = (10, 2) ∧ V.2.1 247 = (9, 242) ∧ V.2.1 248 = (11, 2) ∧ V.2.2.1 229 1 = some 230 ∧ V.2.2.1 229 13 = some 231 ∧ V.2.2.1 229 14 = some 232 ∧ V.2.2.1 229 15 = some 233 ∧ V.2.2.1 229 16 = some 234 ∧ V.2.2.1 229 24 = some 235 ∧ V.2.2.1 229 25 = some 236 ∧ V.2.2.1 229 26 = some 237 ∧ V.2.2.1 229 27 = some 238 ∧ V.2.2.1 229 30 = some 239 ∧ V.2.2.1 229 33 = some 240 ∧ V.2.2.1 229 34 = some 241 ∧ V.2.2.1 229 35 = some 242 ∧ V.2.2.1 229 36 = some 243 ∧ V.2.2.1 229 38 = some 244 ∧ V.2.2.1 229 39 = some 245 ∧ V.2.2.1 229 40 = some 246 ∧ V.2.2.1 229 41 = some 247 ∧ V.2.2.1 229 42 = some 248
theorem lm_s229 {V : Vw} (h : LayM V) : V.2.1 229 = (8, 0) := h.1
theorem lm_s230 {V : Vw} (h : LayM V) : V.2.1 230 = (9, 240) := h.2.1
theorem lm_s231 {V : Vw} (h : LayM V) : V.2.1 231 = (9, 12) := h.2.2.1
theorem lm_s232 {V : Vw} (h : LayM V) : V.2.1 232 = (9, 8) := h.2.2.2.1
theorem lm_s233 {V : Vw} (h : LayM V) : V.2.1 233 = (9, 8) := h.2.2.2.2.1
theorem lm_s234 {V : Vw} (h : LayM V) : V.2.1 234 = (9, 30) := h.2.2.2.2.2.1
theorem lm_s235 {V : Vw} (h : LayM V) : V.2.1 235 = (9, 12) := h.2.2.2.2.2.2.1
theorem lm_s236 {V : Vw} (h : LayM V) : V.2.1 236 = (9, 8) := h.2.2.2.2.2.2.2.1
theorem lm_s237 {V : Vw} (h : LayM V) : V.2.1 237 = (9, 30) := h.2.2.2.2.2.2.2.2.1
theorem lm_s238 {V : Vw} (h : LayM V) : V.2.1 238 = (9, 121) := h.2.2.2.2.2.2.2.2.2.1
theorem lm_s239 {V : Vw} (h : LayM V) : V.2.1 239 = (9, 3630) := h.2.2.2.2.2.2.2.2.2.2.1
theorem lm_s240 {V : Vw} (h : LayM V) : V.2.1 240 = (9, 6) := h.2.2.2.2.2.2.2.2.2.2.2.1
theorem lm_s241 {V : Vw} (h : LayM V) : V.2.1 241 = (9, 6) := h.2.2.2.2.2.2.2.2.2.2.2.2.1
theorem lm_s242 {V : Vw} (h : LayM V) : V.2.1 242 = (10, 6) := h.2.2.2.2.2.2.2.2.2.2.2.2.2.1
theorem lm_s243 {V : Vw} (h : LayM V) : V.2.1 243 = (9, 10) := h.2.2.2.2.2.2.2.2.2.2.2.2.2.2.1
theorem lm_s244 {V : Vw} (h : LayM V) : V.2.1 244 = (9, 20) := h.2.2.2.2.2.2.2.2.2.2.2.2.2.2.2.1
theorem lm_s245 {V : Vw} (h : LayM V) : V.2.1 245 = (9, 20) := h.2.2.2.2.2.2.2.2.2.2.2.2.2.2.2.2.1
theorem lm_s246 {V : Vw} (h : LayM V) : V.2.1 246 = (10, 2) := h.2.2.2.2.2.2.2.2.2.2.2.2.2.2.2.2.2.1
theorem lm_s247 {V : Vw} (h : LayM V) : V.2.1 247 = (9, 242) := h.2.2.2.2.2.2.2.2.2.2.2.2.2.2.2.2.2.2.1
theorem lm_s248 {V : Vw} (h : LayM V) : V.2.1 248 = (11, 2) := h.2.2.2.2.2.2.2.2.2.2.2.2.2.2.2.2.2.2.2.1
theorem lm_r229_1 {V : Vw} (h : LayM V) : V.2.2.1 229 1 = some 230 := h.2.2.2.2.2.2.2.2.2.2.2.2.2.2.2.2.2.2.2.2.1
theorem lm_r229_13 {V : Vw} (h : LayM V) : V.2.2.1 229 13 = some 231 := h.2.2.2.2.2.2.2.2.2.2.2.2.2.2.2.2.2.2.2.2.2.1
theorem lm_r229_14 {V : Vw} (h : LayM V) : V.2.2.1 229 14 = some 232 := h.2.2.2.2.2.2.2.2.2.2.2.2.2.2.2.2.2.2.2.2.2.2.1
theorem lm_r229_15 {V : Vw} (h : LayM V) : V.2.2.1 229 15 = some 233 := h.2.2.2.2.2.2.2.2.2.2.2.2.2.2.2.2.2.2.2.2.2.2.2.1
theorem lm_r229_16 {V : Vw} (h : LayM V) : V.2.2.1 229 16 = some 234 := h.2.2.2.2.2.2.2.2.2.2.2.2.2.2.2.2.2.2.2.2.2.2.2.2.1
theorem lm_r229_24 {V : Vw} (h : LayM V) : V.2.2.1 229 24 = some 235 := h.2.2.2.2.2.2.2.2.2.2.2.2.2.2.2.2.2.2.2.2.2.2.2.2.2.1
theorem lm_r229_25 {V : Vw} (h : LayM V) : V.2.2.1 229 25 = some 236 := h.2.2.2.2.2.2.2.2.2.2.2.2.2.2.2.2.2.2.2.2.2.2.2.2.2.2.1
theorem lm_r229_26 {V : Vw} (h : LayM V) : V.2.2.1 229 26 = some 237 := h.2.2.2.2.2.2.2.2.2.2.2.2.2.2.2.2.2.2.2.2.2.2.2.2.2.2.2.1
theorem lm_r229_27 {V : Vw} (h : LayM V) : V.2.2.1 229 27 = some 238 := h.2.2.2.2.2.2.2.2.2.2.2.2.2.2.2.2.2.2.2.2.2.2.2.2.2.2.2.2.1
theorem lm_r229_30 {V : Vw} (h : LayM V) : V.2.2.1 229 30 = some 239 := h.2.2.2.2.2.2.2.2.2.2.2.2.2.2.2.2.2.2.2.2.2.2.2.2.2.2.2.2.2.1
theorem lm_r229_33 {V : Vw} (h : LayM V) : V.2.2.1 229 33 = some 240 := h.2.2.2.2.2.2.2.2.2.2.2.2.2.2.2.2.2.2.2.2.2.2.2.2.2.2.2.2.2.2.1
theorem lm_r229_34 {V : Vw} (h : LayM V) : V.2.2.1 229 34 = some 241 := h.2.2.2.2.2.2.2.2.2.2.2.2.2.2.2.2.2.2.2.2.2.2.2.2.2.2.2.2.2.2.2.1
theorem lm_r229_35 {V : Vw} (h : LayM V) : V.2.2.1 229 35 = some 242 := h.2.2.2.2.2.2.2.2.2.2.2.2.2.2.2.2.2.2.2.2.2.2.2.2.2.2.2.2.2.2.2.2.1
theorem lm_r229_36 {V : Vw} (h : LayM V) : V.2.2.1 229 36 = some 243 := h.2.2.2.2.2.2.2.2.2.2.2.2.2.2.2.2.2.2.2.2.2.2.2.2.2.2.2.2.2.2.2.2.2.1
theorem lm_r229_38 {V : Vw} (h : LayM V) : V.2.2.1 229 38 = some 244 := h.2.2.2.2.2.2.2.2.2.2.2.2.2.2.2.2.2.2.2.2.2.2.2.2.2.2.2.2.2.2.2.2.2.2.1
theorem lm_r229_39 {V : Vw} (h : LayM V) : V.2.2.1 229 39 = some 245 := h.2.2.2.2.2.2.2.2.2.2.2.2.2.2.2.2.2.2.2.2.2.2.2.2.2.2.2.2.2.2.2.2.2.2.2.1
theorem lm_r229_40 {V : Vw} (h : LayM V) : V.2.2.1 229 40 = some 246 := h.2.2.2.2.2.2.2.2.2.2.2.2.2.2.2.2.2.2.2.2.2.2.2.2.2.2.2.2.2.2.2.2.2.2.2.2.1
theorem lm_r229_41 {V : Vw} (h : LayM V) : V.2.2.1 229 41 = some 247 := h.2.2.2.2.2.2.2.2.2.2.2.2.2.2.2.2.2.2.2.2.2.2.2.2.2.2.2.2.2.2.2.2.2.2.2.2.2.1
theorem lm_r229_42 {V : Vw} (h : LayM V) : V.2.2.1 229 42 = some 248 := h.2.2.2.2.2.2.2.2.2.2.2.2.2.2.2.2.2.2.2.2.2.2.2.2.2.2.2.2.2.2.2.2.2.2.2.2.2.2
def nx {α β : Type} (a : α) (k : α → Option β) : Option β := k a
theorem onx {α β : Type} {a : α} {k : α → Option β} {r : β} (h : nx a k = some r) : ∃ v, a = v ∧ k v = some r := ⟨a, rfl, h⟩
theorem a_mem {g : Gm} {Y : Ym} {E : Ex} {QF : Qf} {V : Vw} {k : Nat × Nat} {pc : Nat} {L : List (Option Value)} {st : List Value} {mi mi' : Mi} {ml : Ml} (h : mi = mi') (kk : At g Y E QF V k pc L st mi' ml) : At g Y E QF V k pc L st mi ml := by rw [h]; exact kk
theorem nb01 {v : Int32} (h : v = 0 ∨ v = 1) : narrow .boolean (.int v) = .int v := by rcases h with rfl | rfl <;> rfl
def lwA (x : Int) : List (Int × Nat) → Prop
  | [] => True
  | (a, _) :: r => ¬ x = a ∧ lwA x r
theorem lw_all {x : Int} : ∀ {ts : List (Int × Nat)}, lwA x ts → ∀ q ∈ ts, ¬ x = q.1
  | [], _, q, h => by cases h
  | (a, t) :: r, h, q, hq => by
    rcases List.mem_cons.mp hq with e | e
    · rw [e]; exact h.1
    · exact lw_all h.2 q e
theorem lw_ne {x k : Int32} {a : Int} (h : ¬ x = k) (hk : k.toInt = a) : ¬ x.toInt = a := fun e => h (Int32.toInt_inj.mp (e.trans hk.symm))
