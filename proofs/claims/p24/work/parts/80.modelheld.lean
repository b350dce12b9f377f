/-! THE CONTRACTS OF THE MODEL HOLD, over those that are shown by hand -/
theorem aa_mcons {Φ : aa_G → Prop} {K0 : aa_K} {l : List aa_K} (h : ∀ K ∈ l, aa_met Φ K) (h0 : aa_met Φ K0) : ∀ K ∈ K0 :: l, aa_met Φ K := fun K hK => by
  rcases List.mem_cons.mp hK with rfl | hK
  · exact h0
  · exact h K hK
def aa_L0 : List aa_K := aa_hands
theorem aa_mL0 (hh : ∀ K ∈ aa_hands, aa_met aa_Phi K) : ∀ K ∈ aa_L0, aa_met aa_Phi K := hh
def aa_L1 : List aa_K := aa_m14 :: aa_L0
set_option maxRecDepth 100000 in
theorem aa_e0 : aa_chk aa_L0 aa_mfree aa_hook (fun _ => false) 400 aa_m14 = true := by decide +kernel
theorem aa_mL1 (hh : ∀ K ∈ aa_hands, aa_met aa_Phi K) : ∀ K ∈ aa_L1, aa_met aa_Phi K := aa_mcons (aa_mL0 hh) (aa_chk_ok aa_model_good (aa_mL0 hh) (fun _ _ q => by cases q) aa_e0)
def aa_L2 : List aa_K := aa_m15 :: aa_L1
set_option maxRecDepth 100000 in
theorem aa_e1 : aa_chk aa_L1 aa_mfree aa_hook (fun _ => false) 400 aa_m15 = true := by decide +kernel
theorem aa_mL2 (hh : ∀ K ∈ aa_hands, aa_met aa_Phi K) : ∀ K ∈ aa_L2, aa_met aa_Phi K := aa_mcons (aa_mL1 hh) (aa_chk_ok aa_model_good (aa_mL1 hh) (fun _ _ q => by cases q) aa_e1)
def aa_L3 : List aa_K := aa_m16 :: aa_L2
set_option maxRecDepth 100000 in
theorem aa_e2 : aa_chk aa_L2 aa_mfree aa_hook (fun _ => false) 400 aa_m16 = true := by decide +kernel
theorem aa_mL3 (hh : ∀ K ∈ aa_hands, aa_met aa_Phi K) : ∀ K ∈ aa_L3, aa_met aa_Phi K := aa_mcons (aa_mL2 hh) (aa_chk_ok aa_model_good (aa_mL2 hh) (fun _ _ q => by cases q) aa_e2)
def aa_L4 : List aa_K := aa_m17 :: aa_L3
set_option maxRecDepth 100000 in
theorem aa_e3 : aa_chk aa_L3 aa_mfree aa_hook (fun _ => false) 400 aa_m17 = true := by decide +kernel
theorem aa_mL4 (hh : ∀ K ∈ aa_hands, aa_met aa_Phi K) : ∀ K ∈ aa_L4, aa_met aa_Phi K := aa_mcons (aa_mL3 hh) (aa_chk_ok aa_model_good (aa_mL3 hh) (fun _ _ q => by cases q) aa_e3)
def aa_L5 : List aa_K := aa_m18 :: aa_L4
set_option maxRecDepth 100000 in
theorem aa_e4 : aa_chk aa_L4 aa_mfree aa_hook (fun _ => false) 400 aa_m18 = true := by decide +kernel
theorem aa_mL5 (hh : ∀ K ∈ aa_hands, aa_met aa_Phi K) : ∀ K ∈ aa_L5, aa_met aa_Phi K := aa_mcons (aa_mL4 hh) (aa_chk_ok aa_model_good (aa_mL4 hh) (fun _ _ q => by cases q) aa_e4)
def aa_L6 : List aa_K := aa_m19 :: aa_L5
set_option maxRecDepth 100000 in
theorem aa_e5 : aa_chk aa_L5 aa_mfree aa_hook (fun _ => false) 400 aa_m19 = true := by decide +kernel
theorem aa_mL6 (hh : ∀ K ∈ aa_hands, aa_met aa_Phi K) : ∀ K ∈ aa_L6, aa_met aa_Phi K := aa_mcons (aa_mL5 hh) (aa_chk_ok aa_model_good (aa_mL5 hh) (fun _ _ q => by cases q) aa_e5)
def aa_L7 : List aa_K := aa_m20 :: aa_L6
set_option maxRecDepth 100000 in
theorem aa_e6 : aa_chk aa_L6 aa_mfree aa_hook (fun _ => false) 400 aa_m20 = true := by decide +kernel
theorem aa_mL7 (hh : ∀ K ∈ aa_hands, aa_met aa_Phi K) : ∀ K ∈ aa_L7, aa_met aa_Phi K := aa_mcons (aa_mL6 hh) (aa_chk_ok aa_model_good (aa_mL6 hh) (fun _ _ q => by cases q) aa_e6)
def aa_L8 : List aa_K := aa_m21 :: aa_L7
set_option maxRecDepth 100000 in
theorem aa_e7 : aa_chk aa_L7 aa_mfree aa_hook (fun _ => false) 400 aa_m21 = true := by decide +kernel
theorem aa_mL8 (hh : ∀ K ∈ aa_hands, aa_met aa_Phi K) : ∀ K ∈ aa_L8, aa_met aa_Phi K := aa_mcons (aa_mL7 hh) (aa_chk_ok aa_model_good (aa_mL7 hh) (fun _ _ q => by cases q) aa_e7)
def aa_L9 : List aa_K := aa_m22 :: aa_L8
set_option maxRecDepth 100000 in
theorem aa_e8 : aa_chk aa_L8 aa_mfree aa_hook (fun _ => false) 400 aa_m22 = true := by decide +kernel
theorem aa_mL9 (hh : ∀ K ∈ aa_hands, aa_met aa_Phi K) : ∀ K ∈ aa_L9, aa_met aa_Phi K := aa_mcons (aa_mL8 hh) (aa_chk_ok aa_model_good (aa_mL8 hh) (fun _ _ q => by cases q) aa_e8)
def aa_L10 : List aa_K := aa_m23 :: aa_L9
set_option maxRecDepth 100000 in
theorem aa_e9 : aa_chk aa_L9 aa_mfree aa_hook (fun _ => false) 400 aa_m23 = true := by decide +kernel
theorem aa_mL10 (hh : ∀ K ∈ aa_hands, aa_met aa_Phi K) : ∀ K ∈ aa_L10, aa_met aa_Phi K := aa_mcons (aa_mL9 hh) (aa_chk_ok aa_model_good (aa_mL9 hh) (fun _ _ q => by cases q) aa_e9)
def aa_L11 : List aa_K := aa_m24 :: aa_L10
set_option maxRecDepth 100000 in
theorem aa_e10 : aa_chk aa_L10 aa_mfree aa_hook (fun _ => false) 400 aa_m24 = true := by decide +kernel
theorem aa_mL11 (hh : ∀ K ∈ aa_hands, aa_met aa_Phi K) : ∀ K ∈ aa_L11, aa_met aa_Phi K := aa_mcons (aa_mL10 hh) (aa_chk_ok aa_model_good (aa_mL10 hh) (fun _ _ q => by cases q) aa_e10)
def aa_L12 : List aa_K := aa_m25 :: aa_L11
set_option maxRecDepth 100000 in
theorem aa_e11 : aa_chk aa_L11 aa_mfree aa_hook (fun _ => false) 400 aa_m25 = true := by decide +kernel
theorem aa_mL12 (hh : ∀ K ∈ aa_hands, aa_met aa_Phi K) : ∀ K ∈ aa_L12, aa_met aa_Phi K := aa_mcons (aa_mL11 hh) (aa_chk_ok aa_model_good (aa_mL11 hh) (fun _ _ q => by cases q) aa_e11)
def aa_L13 : List aa_K := aa_m26 :: aa_L12
set_option maxRecDepth 100000 in
theorem aa_e12 : aa_chk aa_L12 aa_mfree aa_hook (fun _ => false) 400 aa_m26 = true := by decide +kernel
theorem aa_mL13 (hh : ∀ K ∈ aa_hands, aa_met aa_Phi K) : ∀ K ∈ aa_L13, aa_met aa_Phi K := aa_mcons (aa_mL12 hh) (aa_chk_ok aa_model_good (aa_mL12 hh) (fun _ _ q => by cases q) aa_e12)
def aa_L14 : List aa_K := aa_m27 :: aa_L13
set_option maxRecDepth 100000 in
theorem aa_e13 : aa_chk aa_L13 aa_mfree aa_hook (fun _ => false) 400 aa_m27 = true := by decide +kernel
theorem aa_mL14 (hh : ∀ K ∈ aa_hands, aa_met aa_Phi K) : ∀ K ∈ aa_L14, aa_met aa_Phi K := aa_mcons (aa_mL13 hh) (aa_chk_ok aa_model_good (aa_mL13 hh) (fun _ _ q => by cases q) aa_e13)
def aa_L15 : List aa_K := aa_m28 :: aa_L14
set_option maxRecDepth 100000 in
theorem aa_e14 : aa_chk aa_L14 aa_mfree aa_hook (fun _ => false) 400 aa_m28 = true := by decide +kernel
theorem aa_mL15 (hh : ∀ K ∈ aa_hands, aa_met aa_Phi K) : ∀ K ∈ aa_L15, aa_met aa_Phi K := aa_mcons (aa_mL14 hh) (aa_chk_ok aa_model_good (aa_mL14 hh) (fun _ _ q => by cases q) aa_e14)
def aa_L16 : List aa_K := aa_m29 :: aa_L15
set_option maxRecDepth 100000 in
theorem aa_e15 : aa_chk aa_L15 aa_mfree aa_hook (fun _ => false) 400 aa_m29 = true := by decide +kernel
theorem aa_mL16 (hh : ∀ K ∈ aa_hands, aa_met aa_Phi K) : ∀ K ∈ aa_L16, aa_met aa_Phi K := aa_mcons (aa_mL15 hh) (aa_chk_ok aa_model_good (aa_mL15 hh) (fun _ _ q => by cases q) aa_e15)
def aa_L17 : List aa_K := aa_m30 :: aa_L16
set_option maxRecDepth 100000 in
theorem aa_e16 : aa_chk aa_L16 aa_mfree aa_hook (fun _ => false) 400 aa_m30 = true := by decide +kernel
theorem aa_mL17 (hh : ∀ K ∈ aa_hands, aa_met aa_Phi K) : ∀ K ∈ aa_L17, aa_met aa_Phi K := aa_mcons (aa_mL16 hh) (aa_chk_ok aa_model_good (aa_mL16 hh) (fun _ _ q => by cases q) aa_e16)
def aa_L18 : List aa_K := aa_m31 :: aa_L17
set_option maxRecDepth 100000 in
theorem aa_e17 : aa_chk aa_L17 aa_mfree aa_hook (fun _ => false) 400 aa_m31 = true := by decide +kernel
theorem aa_mL18 (hh : ∀ K ∈ aa_hands, aa_met aa_Phi K) : ∀ K ∈ aa_L18, aa_met aa_Phi K := aa_mcons (aa_mL17 hh) (aa_chk_ok aa_model_good (aa_mL17 hh) (fun _ _ q => by cases q) aa_e17)
def aa_L19 : List aa_K := aa_m32 :: aa_L18
set_option maxRecDepth 100000 in
theorem aa_e18 : aa_chk aa_L18 aa_mfree aa_hook (fun _ => false) 400 aa_m32 = true := by decide +kernel
theorem aa_mL19 (hh : ∀ K ∈ aa_hands, aa_met aa_Phi K) : ∀ K ∈ aa_L19, aa_met aa_Phi K := aa_mcons (aa_mL18 hh) (aa_chk_ok aa_model_good (aa_mL18 hh) (fun _ _ q => by cases q) aa_e18)
def aa_L20 : List aa_K := aa_m33 :: aa_L19
set_option maxRecDepth 100000 in
theorem aa_e19 : aa_chk aa_L19 aa_mfree aa_hook (fun _ => false) 400 aa_m33 = true := by decide +kernel
theorem aa_mL20 (hh : ∀ K ∈ aa_hands, aa_met aa_Phi K) : ∀ K ∈ aa_L20, aa_met aa_Phi K := aa_mcons (aa_mL19 hh) (aa_chk_ok aa_model_good (aa_mL19 hh) (fun _ _ q => by cases q) aa_e19)
def aa_L21 : List aa_K := aa_m34 :: aa_L20
set_option maxRecDepth 100000 in
theorem aa_e20 : aa_chk aa_L20 aa_mfree aa_hook (fun _ => false) 400 aa_m34 = true := by decide +kernel
theorem aa_mL21 (hh : ∀ K ∈ aa_hands, aa_met aa_Phi K) : ∀ K ∈ aa_L21, aa_met aa_Phi K := aa_mcons (aa_mL20 hh) (aa_chk_ok aa_model_good (aa_mL20 hh) (fun _ _ q => by cases q) aa_e20)
def aa_L22 : List aa_K := aa_m35 :: aa_L21
set_option maxRecDepth 100000 in
theorem aa_e21 : aa_chk aa_L21 aa_mfree aa_hook (fun _ => false) 400 aa_m35 = true := by decide +kernel
theorem aa_mL22 (hh : ∀ K ∈ aa_hands, aa_met aa_Phi K) : ∀ K ∈ aa_L22, aa_met aa_Phi K := aa_mcons (aa_mL21 hh) (aa_chk_ok aa_model_good (aa_mL21 hh) (fun _ _ q => by cases q) aa_e21)
def aa_L23 : List aa_K := aa_m36 :: aa_L22
set_option maxRecDepth 100000 in
theorem aa_e22 : aa_chk aa_L22 aa_mfree aa_hook (fun _ => false) 400 aa_m36 = true := by decide +kernel
theorem aa_mL23 (hh : ∀ K ∈ aa_hands, aa_met aa_Phi K) : ∀ K ∈ aa_L23, aa_met aa_Phi K := aa_mcons (aa_mL22 hh) (aa_chk_ok aa_model_good (aa_mL22 hh) (fun _ _ q => by cases q) aa_e22)
def aa_L24 : List aa_K := aa_m37 :: aa_L23
set_option maxRecDepth 100000 in
theorem aa_e23 : aa_chk aa_L23 aa_mfree aa_hook (fun _ => false) 400 aa_m37 = true := by decide +kernel
theorem aa_mL24 (hh : ∀ K ∈ aa_hands, aa_met aa_Phi K) : ∀ K ∈ aa_L24, aa_met aa_Phi K := aa_mcons (aa_mL23 hh) (aa_chk_ok aa_model_good (aa_mL23 hh) (fun _ _ q => by cases q) aa_e23)
def aa_L25 : List aa_K := aa_m38 :: aa_L24
set_option maxRecDepth 100000 in
theorem aa_e24 : aa_chk aa_L24 aa_mfree aa_hook (fun _ => false) 400 aa_m38 = true := by decide +kernel
theorem aa_mL25 (hh : ∀ K ∈ aa_hands, aa_met aa_Phi K) : ∀ K ∈ aa_L25, aa_met aa_Phi K := aa_mcons (aa_mL24 hh) (aa_chk_ok aa_model_good (aa_mL24 hh) (fun _ _ q => by cases q) aa_e24)
def aa_L26 : List aa_K := aa_m39 :: aa_L25
set_option maxRecDepth 100000 in
theorem aa_e25 : aa_chk aa_L25 aa_mfree aa_hook (fun _ => false) 400 aa_m39 = true := by decide +kernel
theorem aa_mL26 (hh : ∀ K ∈ aa_hands, aa_met aa_Phi K) : ∀ K ∈ aa_L26, aa_met aa_Phi K := aa_mcons (aa_mL25 hh) (aa_chk_ok aa_model_good (aa_mL25 hh) (fun _ _ q => by cases q) aa_e25)
def aa_L27 : List aa_K := aa_m40 :: aa_L26
set_option maxRecDepth 100000 in
theorem aa_e26 : aa_chk aa_L26 aa_mfree aa_hook (fun _ => false) 400 aa_m40 = true := by decide +kernel
theorem aa_mL27 (hh : ∀ K ∈ aa_hands, aa_met aa_Phi K) : ∀ K ∈ aa_L27, aa_met aa_Phi K := aa_mcons (aa_mL26 hh) (aa_chk_ok aa_model_good (aa_mL26 hh) (fun _ _ q => by cases q) aa_e26)
def aa_L28 : List aa_K := aa_m41 :: aa_L27
set_option maxRecDepth 100000 in
theorem aa_e27 : aa_chk aa_L27 aa_mfree aa_hook (fun _ => false) 400 aa_m41 = true := by decide +kernel
theorem aa_mL28 (hh : ∀ K ∈ aa_hands, aa_met aa_Phi K) : ∀ K ∈ aa_L28, aa_met aa_Phi K := aa_mcons (aa_mL27 hh) (aa_chk_ok aa_model_good (aa_mL27 hh) (fun _ _ q => by cases q) aa_e27)
def aa_L29 : List aa_K := aa_m42 :: aa_L28
set_option maxRecDepth 100000 in
theorem aa_e28 : aa_chk aa_L28 aa_mfree aa_hook (fun _ => false) 400 aa_m42 = true := by decide +kernel
theorem aa_mL29 (hh : ∀ K ∈ aa_hands, aa_met aa_Phi K) : ∀ K ∈ aa_L29, aa_met aa_Phi K := aa_mcons (aa_mL28 hh) (aa_chk_ok aa_model_good (aa_mL28 hh) (fun _ _ q => by cases q) aa_e28)
def aa_L30 : List aa_K := aa_m43 :: aa_L29
set_option maxRecDepth 100000 in
theorem aa_e29 : aa_chk aa_L29 aa_mfree aa_hook (fun _ => false) 400 aa_m43 = true := by decide +kernel
theorem aa_mL30 (hh : ∀ K ∈ aa_hands, aa_met aa_Phi K) : ∀ K ∈ aa_L30, aa_met aa_Phi K := aa_mcons (aa_mL29 hh) (aa_chk_ok aa_model_good (aa_mL29 hh) (fun _ _ q => by cases q) aa_e29)
def aa_L31 : List aa_K := aa_m44 :: aa_L30
set_option maxRecDepth 100000 in
theorem aa_e30 : aa_chk aa_L30 aa_mfree aa_hook (fun _ => false) 400 aa_m44 = true := by decide +kernel
theorem aa_mL31 (hh : ∀ K ∈ aa_hands, aa_met aa_Phi K) : ∀ K ∈ aa_L31, aa_met aa_Phi K := aa_mcons (aa_mL30 hh) (aa_chk_ok aa_model_good (aa_mL30 hh) (fun _ _ q => by cases q) aa_e30)
def aa_L32 : List aa_K := aa_m45 :: aa_L31
set_option maxRecDepth 100000 in
theorem aa_e31 : aa_chk aa_L31 aa_mfree aa_hook (fun _ => false) 400 aa_m45 = true := by decide +kernel
theorem aa_mL32 (hh : ∀ K ∈ aa_hands, aa_met aa_Phi K) : ∀ K ∈ aa_L32, aa_met aa_Phi K := aa_mcons (aa_mL31 hh) (aa_chk_ok aa_model_good (aa_mL31 hh) (fun _ _ q => by cases q) aa_e31)
def aa_L33 : List aa_K := aa_m46 :: aa_L32
set_option maxRecDepth 100000 in
theorem aa_e32 : aa_chk aa_L32 aa_mfree aa_hook (fun _ => false) 400 aa_m46 = true := by decide +kernel
theorem aa_mL33 (hh : ∀ K ∈ aa_hands, aa_met aa_Phi K) : ∀ K ∈ aa_L33, aa_met aa_Phi K := aa_mcons (aa_mL32 hh) (aa_chk_ok aa_model_good (aa_mL32 hh) (fun _ _ q => by cases q) aa_e32)
def aa_L34 : List aa_K := aa_m47 :: aa_L33
set_option maxRecDepth 100000 in
theorem aa_e33 : aa_chk aa_L33 aa_mfree aa_hook (fun _ => false) 400 aa_m47 = true := by decide +kernel
theorem aa_mL34 (hh : ∀ K ∈ aa_hands, aa_met aa_Phi K) : ∀ K ∈ aa_L34, aa_met aa_Phi K := aa_mcons (aa_mL33 hh) (aa_chk_ok aa_model_good (aa_mL33 hh) (fun _ _ q => by cases q) aa_e33)
def aa_L35 : List aa_K := aa_m48 :: aa_L34
set_option maxRecDepth 100000 in
theorem aa_e34 : aa_chk aa_L34 aa_mfree aa_hook (fun _ => false) 400 aa_m48 = true := by decide +kernel
theorem aa_mL35 (hh : ∀ K ∈ aa_hands, aa_met aa_Phi K) : ∀ K ∈ aa_L35, aa_met aa_Phi K := aa_mcons (aa_mL34 hh) (aa_chk_ok aa_model_good (aa_mL34 hh) (fun _ _ q => by cases q) aa_e34)
def aa_L36 : List aa_K := aa_m49 :: aa_L35
set_option maxRecDepth 100000 in
theorem aa_e35 : aa_chk aa_L35 aa_mfree aa_hook (fun _ => false) 400 aa_m49 = true := by decide +kernel
theorem aa_mL36 (hh : ∀ K ∈ aa_hands, aa_met aa_Phi K) : ∀ K ∈ aa_L36, aa_met aa_Phi K := aa_mcons (aa_mL35 hh) (aa_chk_ok aa_model_good (aa_mL35 hh) (fun _ _ q => by cases q) aa_e35)
def aa_L37 : List aa_K := aa_m50 :: aa_L36
set_option maxRecDepth 100000 in
theorem aa_e36 : aa_chk aa_L36 aa_mfree aa_hook (fun _ => false) 400 aa_m50 = true := by decide +kernel
theorem aa_mL37 (hh : ∀ K ∈ aa_hands, aa_met aa_Phi K) : ∀ K ∈ aa_L37, aa_met aa_Phi K := aa_mcons (aa_mL36 hh) (aa_chk_ok aa_model_good (aa_mL36 hh) (fun _ _ q => by cases q) aa_e36)
def aa_L38 : List aa_K := aa_m51 :: aa_L37
set_option maxRecDepth 100000 in
theorem aa_e37 : aa_chk aa_L37 aa_mfree aa_hook (fun _ => false) 400 aa_m51 = true := by decide +kernel
theorem aa_mL38 (hh : ∀ K ∈ aa_hands, aa_met aa_Phi K) : ∀ K ∈ aa_L38, aa_met aa_Phi K := aa_mcons (aa_mL37 hh) (aa_chk_ok aa_model_good (aa_mL37 hh) (fun _ _ q => by cases q) aa_e37)
def aa_L39 : List aa_K := aa_m52 :: aa_L38
set_option maxRecDepth 100000 in
theorem aa_e38 : aa_chk aa_L38 aa_mfree aa_hook (fun _ => false) 400 aa_m52 = true := by decide +kernel
theorem aa_mL39 (hh : ∀ K ∈ aa_hands, aa_met aa_Phi K) : ∀ K ∈ aa_L39, aa_met aa_Phi K := aa_mcons (aa_mL38 hh) (aa_chk_ok aa_model_good (aa_mL38 hh) (fun _ _ q => by cases q) aa_e38)
def aa_L40 : List aa_K := aa_m53 :: aa_L39
set_option maxRecDepth 100000 in
theorem aa_e39 : aa_chk aa_L39 aa_mfree aa_hook (fun _ => false) 400 aa_m53 = true := by decide +kernel
theorem aa_mL40 (hh : ∀ K ∈ aa_hands, aa_met aa_Phi K) : ∀ K ∈ aa_L40, aa_met aa_Phi K := aa_mcons (aa_mL39 hh) (aa_chk_ok aa_model_good (aa_mL39 hh) (fun _ _ q => by cases q) aa_e39)
def aa_L41 : List aa_K := aa_m54 :: aa_L40
set_option maxRecDepth 100000 in
theorem aa_e40 : aa_chk aa_L40 aa_mfree aa_hook (fun _ => false) 400 aa_m54 = true := by decide +kernel
theorem aa_mL41 (hh : ∀ K ∈ aa_hands, aa_met aa_Phi K) : ∀ K ∈ aa_L41, aa_met aa_Phi K := aa_mcons (aa_mL40 hh) (aa_chk_ok aa_model_good (aa_mL40 hh) (fun _ _ q => by cases q) aa_e40)
def aa_L42 : List aa_K := aa_m55 :: aa_L41
set_option maxRecDepth 100000 in
theorem aa_e41 : aa_chk aa_L41 aa_mfree aa_hook (fun _ => false) 400 aa_m55 = true := by decide +kernel
theorem aa_mL42 (hh : ∀ K ∈ aa_hands, aa_met aa_Phi K) : ∀ K ∈ aa_L42, aa_met aa_Phi K := aa_mcons (aa_mL41 hh) (aa_chk_ok aa_model_good (aa_mL41 hh) (fun _ _ q => by cases q) aa_e41)
def aa_L43 : List aa_K := aa_m56 :: aa_L42
set_option maxRecDepth 100000 in
theorem aa_e42 : aa_chk aa_L42 aa_mfree aa_hook (fun _ => false) 400 aa_m56 = true := by decide +kernel
theorem aa_mL43 (hh : ∀ K ∈ aa_hands, aa_met aa_Phi K) : ∀ K ∈ aa_L43, aa_met aa_Phi K := aa_mcons (aa_mL42 hh) (aa_chk_ok aa_model_good (aa_mL42 hh) (fun _ _ q => by cases q) aa_e42)
def aa_L44 : List aa_K := aa_m57 :: aa_L43
set_option maxRecDepth 100000 in
theorem aa_e43 : aa_chk aa_L43 aa_mfree aa_hook (fun _ => false) 400 aa_m57 = true := by decide +kernel
theorem aa_mL44 (hh : ∀ K ∈ aa_hands, aa_met aa_Phi K) : ∀ K ∈ aa_L44, aa_met aa_Phi K := aa_mcons (aa_mL43 hh) (aa_chk_ok aa_model_good (aa_mL43 hh) (fun _ _ q => by cases q) aa_e43)
def aa_L45 : List aa_K := aa_m58 :: aa_L44
set_option maxRecDepth 100000 in
theorem aa_e44 : aa_chk aa_L44 aa_mfree aa_hook (fun _ => false) 400 aa_m58 = true := by decide +kernel
theorem aa_mL45 (hh : ∀ K ∈ aa_hands, aa_met aa_Phi K) : ∀ K ∈ aa_L45, aa_met aa_Phi K := aa_mcons (aa_mL44 hh) (aa_chk_ok aa_model_good (aa_mL44 hh) (fun _ _ q => by cases q) aa_e44)
def aa_L46 : List aa_K := aa_m59 :: aa_L45
set_option maxRecDepth 100000 in
theorem aa_e45 : aa_chk aa_L45 aa_mfree aa_hook (fun _ => false) 400 aa_m59 = true := by decide +kernel
theorem aa_mL46 (hh : ∀ K ∈ aa_hands, aa_met aa_Phi K) : ∀ K ∈ aa_L46, aa_met aa_Phi K := aa_mcons (aa_mL45 hh) (aa_chk_ok aa_model_good (aa_mL45 hh) (fun _ _ q => by cases q) aa_e45)
def aa_L47 : List aa_K := aa_m60 :: aa_L46
set_option maxRecDepth 100000 in
theorem aa_e46 : aa_chk aa_L46 aa_mfree aa_hook (fun _ => false) 400 aa_m60 = true := by decide +kernel
theorem aa_mL47 (hh : ∀ K ∈ aa_hands, aa_met aa_Phi K) : ∀ K ∈ aa_L47, aa_met aa_Phi K := aa_mcons (aa_mL46 hh) (aa_chk_ok aa_model_good (aa_mL46 hh) (fun _ _ q => by cases q) aa_e46)
def aa_L48 : List aa_K := aa_m61 :: aa_L47
set_option maxRecDepth 100000 in
theorem aa_e47 : aa_chk aa_L47 aa_mfree aa_hook (fun _ => false) 400 aa_m61 = true := by decide +kernel
theorem aa_mL48 (hh : ∀ K ∈ aa_hands, aa_met aa_Phi K) : ∀ K ∈ aa_L48, aa_met aa_Phi K := aa_mcons (aa_mL47 hh) (aa_chk_ok aa_model_good (aa_mL47 hh) (fun _ _ q => by cases q) aa_e47)
def aa_L49 : List aa_K := aa_m62 :: aa_L48
set_option maxRecDepth 100000 in
theorem aa_e48 : aa_chk aa_L48 aa_mfree aa_hook (fun _ => false) 400 aa_m62 = true := by decide +kernel
theorem aa_mL49 (hh : ∀ K ∈ aa_hands, aa_met aa_Phi K) : ∀ K ∈ aa_L49, aa_met aa_Phi K := aa_mcons (aa_mL48 hh) (aa_chk_ok aa_model_good (aa_mL48 hh) (fun _ _ q => by cases q) aa_e48)
def aa_L50 : List aa_K := aa_m63 :: aa_L49
set_option maxRecDepth 100000 in
theorem aa_e49 : aa_chk aa_L49 aa_mfree aa_hook (fun _ => false) 400 aa_m63 = true := by decide +kernel
theorem aa_mL50 (hh : ∀ K ∈ aa_hands, aa_met aa_Phi K) : ∀ K ∈ aa_L50, aa_met aa_Phi K := aa_mcons (aa_mL49 hh) (aa_chk_ok aa_model_good (aa_mL49 hh) (fun _ _ q => by cases q) aa_e49)
def aa_L51 : List aa_K := aa_m64 :: aa_L50
set_option maxRecDepth 100000 in
theorem aa_e50 : aa_chk aa_L50 aa_mfree aa_hook (fun _ => false) 400 aa_m64 = true := by decide +kernel
theorem aa_mL51 (hh : ∀ K ∈ aa_hands, aa_met aa_Phi K) : ∀ K ∈ aa_L51, aa_met aa_Phi K := aa_mcons (aa_mL50 hh) (aa_chk_ok aa_model_good (aa_mL50 hh) (fun _ _ q => by cases q) aa_e50)
def aa_L52 : List aa_K := aa_m65 :: aa_L51
set_option maxRecDepth 100000 in
theorem aa_e51 : aa_chk aa_L51 aa_mfree aa_hook (fun _ => false) 400 aa_m65 = true := by decide +kernel
theorem aa_mL52 (hh : ∀ K ∈ aa_hands, aa_met aa_Phi K) : ∀ K ∈ aa_L52, aa_met aa_Phi K := aa_mcons (aa_mL51 hh) (aa_chk_ok aa_model_good (aa_mL51 hh) (fun _ _ q => by cases q) aa_e51)
def aa_L53 : List aa_K := aa_m66 :: aa_L52
set_option maxRecDepth 100000 in
theorem aa_e52 : aa_chk aa_L52 aa_mfree aa_hook (fun _ => false) 400 aa_m66 = true := by decide +kernel
theorem aa_mL53 (hh : ∀ K ∈ aa_hands, aa_met aa_Phi K) : ∀ K ∈ aa_L53, aa_met aa_Phi K := aa_mcons (aa_mL52 hh) (aa_chk_ok aa_model_good (aa_mL52 hh) (fun _ _ q => by cases q) aa_e52)
def aa_L54 : List aa_K := aa_m67 :: aa_L53
set_option maxRecDepth 100000 in
theorem aa_e53 : aa_chk aa_L53 aa_mfree aa_hook (fun _ => false) 400 aa_m67 = true := by decide +kernel
theorem aa_mL54 (hh : ∀ K ∈ aa_hands, aa_met aa_Phi K) : ∀ K ∈ aa_L54, aa_met aa_Phi K := aa_mcons (aa_mL53 hh) (aa_chk_ok aa_model_good (aa_mL53 hh) (fun _ _ q => by cases q) aa_e53)
def aa_L55 : List aa_K := aa_m68 :: aa_L54
set_option maxRecDepth 100000 in
theorem aa_e54 : aa_chk aa_L54 aa_mfree aa_hook (fun _ => false) 400 aa_m68 = true := by decide +kernel
theorem aa_mL55 (hh : ∀ K ∈ aa_hands, aa_met aa_Phi K) : ∀ K ∈ aa_L55, aa_met aa_Phi K := aa_mcons (aa_mL54 hh) (aa_chk_ok aa_model_good (aa_mL54 hh) (fun _ _ q => by cases q) aa_e54)
def aa_L56 : List aa_K := aa_m69 :: aa_L55
set_option maxRecDepth 100000 in
theorem aa_e55 : aa_chk aa_L55 aa_mfree aa_hook (fun _ => false) 400 aa_m69 = true := by decide +kernel
theorem aa_mL56 (hh : ∀ K ∈ aa_hands, aa_met aa_Phi K) : ∀ K ∈ aa_L56, aa_met aa_Phi K := aa_mcons (aa_mL55 hh) (aa_chk_ok aa_model_good (aa_mL55 hh) (fun _ _ q => by cases q) aa_e55)
def aa_L57 : List aa_K := aa_m70 :: aa_L56
set_option maxRecDepth 100000 in
theorem aa_e56 : aa_chk aa_L56 aa_mfree aa_hook (fun _ => false) 400 aa_m70 = true := by decide +kernel
theorem aa_mL57 (hh : ∀ K ∈ aa_hands, aa_met aa_Phi K) : ∀ K ∈ aa_L57, aa_met aa_Phi K := aa_mcons (aa_mL56 hh) (aa_chk_ok aa_model_good (aa_mL56 hh) (fun _ _ q => by cases q) aa_e56)
def aa_L58 : List aa_K := aa_m71 :: aa_L57
set_option maxRecDepth 100000 in
theorem aa_e57 : aa_chk aa_L57 aa_mfree aa_hook (fun _ => false) 400 aa_m71 = true := by decide +kernel
theorem aa_mL58 (hh : ∀ K ∈ aa_hands, aa_met aa_Phi K) : ∀ K ∈ aa_L58, aa_met aa_Phi K := aa_mcons (aa_mL57 hh) (aa_chk_ok aa_model_good (aa_mL57 hh) (fun _ _ q => by cases q) aa_e57)
def aa_L59 : List aa_K := aa_m72 :: aa_L58
set_option maxRecDepth 100000 in
theorem aa_e58 : aa_chk aa_L58 aa_mfree aa_hook (fun _ => false) 400 aa_m72 = true := by decide +kernel
theorem aa_mL59 (hh : ∀ K ∈ aa_hands, aa_met aa_Phi K) : ∀ K ∈ aa_L59, aa_met aa_Phi K := aa_mcons (aa_mL58 hh) (aa_chk_ok aa_model_good (aa_mL58 hh) (fun _ _ q => by cases q) aa_e58)
def aa_L60 : List aa_K := aa_m73 :: aa_L59
set_option maxRecDepth 100000 in
theorem aa_e59 : aa_chk aa_L59 aa_mfree aa_hook (fun _ => false) 400 aa_m73 = true := by decide +kernel
theorem aa_mL60 (hh : ∀ K ∈ aa_hands, aa_met aa_Phi K) : ∀ K ∈ aa_L60, aa_met aa_Phi K := aa_mcons (aa_mL59 hh) (aa_chk_ok aa_model_good (aa_mL59 hh) (fun _ _ q => by cases q) aa_e59)
def aa_L61 : List aa_K := aa_m74 :: aa_L60
set_option maxRecDepth 100000 in
theorem aa_e60 : aa_chk aa_L60 aa_mfree aa_hook (fun _ => false) 400 aa_m74 = true := by decide +kernel
theorem aa_mL61 (hh : ∀ K ∈ aa_hands, aa_met aa_Phi K) : ∀ K ∈ aa_L61, aa_met aa_Phi K := aa_mcons (aa_mL60 hh) (aa_chk_ok aa_model_good (aa_mL60 hh) (fun _ _ q => by cases q) aa_e60)
def aa_L62 : List aa_K := aa_m75 :: aa_L61
set_option maxRecDepth 100000 in
theorem aa_e61 : aa_chk aa_L61 aa_mfree aa_hook (fun _ => false) 400 aa_m75 = true := by decide +kernel
theorem aa_mL62 (hh : ∀ K ∈ aa_hands, aa_met aa_Phi K) : ∀ K ∈ aa_L62, aa_met aa_Phi K := aa_mcons (aa_mL61 hh) (aa_chk_ok aa_model_good (aa_mL61 hh) (fun _ _ q => by cases q) aa_e61)
def aa_L63 : List aa_K := aa_m76 :: aa_L62
set_option maxRecDepth 100000 in
theorem aa_e62 : aa_chk aa_L62 aa_mfree aa_hook (fun _ => false) 400 aa_m76 = true := by decide +kernel
theorem aa_mL63 (hh : ∀ K ∈ aa_hands, aa_met aa_Phi K) : ∀ K ∈ aa_L63, aa_met aa_Phi K := aa_mcons (aa_mL62 hh) (aa_chk_ok aa_model_good (aa_mL62 hh) (fun _ _ q => by cases q) aa_e62)
def aa_L64 : List aa_K := aa_m77 :: aa_L63
set_option maxRecDepth 100000 in
theorem aa_e63 : aa_chk aa_L63 aa_mfree aa_hook (fun _ => false) 400 aa_m77 = true := by decide +kernel
theorem aa_mL64 (hh : ∀ K ∈ aa_hands, aa_met aa_Phi K) : ∀ K ∈ aa_L64, aa_met aa_Phi K := aa_mcons (aa_mL63 hh) (aa_chk_ok aa_model_good (aa_mL63 hh) (fun _ _ q => by cases q) aa_e63)
def aa_L65 : List aa_K := aa_m78 :: aa_L64
set_option maxRecDepth 100000 in
theorem aa_e64 : aa_chk aa_L64 aa_mfree aa_hook (fun _ => false) 400 aa_m78 = true := by decide +kernel
theorem aa_mL65 (hh : ∀ K ∈ aa_hands, aa_met aa_Phi K) : ∀ K ∈ aa_L65, aa_met aa_Phi K := aa_mcons (aa_mL64 hh) (aa_chk_ok aa_model_good (aa_mL64 hh) (fun _ _ q => by cases q) aa_e64)
def aa_L66 : List aa_K := aa_m79 :: aa_L65
set_option maxRecDepth 100000 in
theorem aa_e65 : aa_chk aa_L65 aa_mfree aa_hook (fun _ => false) 400 aa_m79 = true := by decide +kernel
theorem aa_mL66 (hh : ∀ K ∈ aa_hands, aa_met aa_Phi K) : ∀ K ∈ aa_L66, aa_met aa_Phi K := aa_mcons (aa_mL65 hh) (aa_chk_ok aa_model_good (aa_mL65 hh) (fun _ _ q => by cases q) aa_e65)
def aa_L67 : List aa_K := aa_m80 :: aa_L66
set_option maxRecDepth 100000 in
theorem aa_e66 : aa_chk aa_L66 aa_mfree aa_hook (fun _ => false) 400 aa_m80 = true := by decide +kernel
theorem aa_mL67 (hh : ∀ K ∈ aa_hands, aa_met aa_Phi K) : ∀ K ∈ aa_L67, aa_met aa_Phi K := aa_mcons (aa_mL66 hh) (aa_chk_ok aa_model_good (aa_mL66 hh) (fun _ _ q => by cases q) aa_e66)
def aa_L68 : List aa_K := aa_m81 :: aa_L67
set_option maxRecDepth 100000 in
theorem aa_e67 : aa_chk aa_L67 aa_mfree aa_hook (fun _ => false) 400 aa_m81 = true := by decide +kernel
theorem aa_mL68 (hh : ∀ K ∈ aa_hands, aa_met aa_Phi K) : ∀ K ∈ aa_L68, aa_met aa_Phi K := aa_mcons (aa_mL67 hh) (aa_chk_ok aa_model_good (aa_mL67 hh) (fun _ _ q => by cases q) aa_e67)
def aa_L69 : List aa_K := aa_m82 :: aa_L68
set_option maxRecDepth 100000 in
theorem aa_e68 : aa_chk aa_L68 aa_mfree aa_hook (fun _ => false) 400 aa_m82 = true := by decide +kernel
theorem aa_mL69 (hh : ∀ K ∈ aa_hands, aa_met aa_Phi K) : ∀ K ∈ aa_L69, aa_met aa_Phi K := aa_mcons (aa_mL68 hh) (aa_chk_ok aa_model_good (aa_mL68 hh) (fun _ _ q => by cases q) aa_e68)
def aa_L70 : List aa_K := aa_m83 :: aa_L69
set_option maxRecDepth 100000 in
theorem aa_e69 : aa_chk aa_L69 aa_mfree aa_hook (fun _ => false) 400 aa_m83 = true := by decide +kernel
theorem aa_mL70 (hh : ∀ K ∈ aa_hands, aa_met aa_Phi K) : ∀ K ∈ aa_L70, aa_met aa_Phi K := aa_mcons (aa_mL69 hh) (aa_chk_ok aa_model_good (aa_mL69 hh) (fun _ _ q => by cases q) aa_e69)
def aa_L71 : List aa_K := aa_m84 :: aa_L70
set_option maxRecDepth 100000 in
theorem aa_e70 : aa_chk aa_L70 aa_mfree aa_hook (fun _ => false) 400 aa_m84 = true := by decide +kernel
theorem aa_mL71 (hh : ∀ K ∈ aa_hands, aa_met aa_Phi K) : ∀ K ∈ aa_L71, aa_met aa_Phi K := aa_mcons (aa_mL70 hh) (aa_chk_ok aa_model_good (aa_mL70 hh) (fun _ _ q => by cases q) aa_e70)
def aa_L72 : List aa_K := aa_m85 :: aa_L71
set_option maxRecDepth 100000 in
theorem aa_e71 : aa_chk aa_L71 aa_mfree aa_hook (fun _ => false) 400 aa_m85 = true := by decide +kernel
theorem aa_mL72 (hh : ∀ K ∈ aa_hands, aa_met aa_Phi K) : ∀ K ∈ aa_L72, aa_met aa_Phi K := aa_mcons (aa_mL71 hh) (aa_chk_ok aa_model_good (aa_mL71 hh) (fun _ _ q => by cases q) aa_e71)
def aa_L73 : List aa_K := aa_m86 :: aa_L72
set_option maxRecDepth 100000 in
theorem aa_e72 : aa_chk aa_L72 aa_mfree aa_hook (fun _ => false) 400 aa_m86 = true := by decide +kernel
theorem aa_mL73 (hh : ∀ K ∈ aa_hands, aa_met aa_Phi K) : ∀ K ∈ aa_L73, aa_met aa_Phi K := aa_mcons (aa_mL72 hh) (aa_chk_ok aa_model_good (aa_mL72 hh) (fun _ _ q => by cases q) aa_e72)
def aa_L74 : List aa_K := aa_m87 :: aa_L73
set_option maxRecDepth 100000 in
theorem aa_e73 : aa_chk aa_L73 aa_mfree aa_hook (fun _ => false) 400 aa_m87 = true := by decide +kernel
theorem aa_mL74 (hh : ∀ K ∈ aa_hands, aa_met aa_Phi K) : ∀ K ∈ aa_L74, aa_met aa_Phi K := aa_mcons (aa_mL73 hh) (aa_chk_ok aa_model_good (aa_mL73 hh) (fun _ _ q => by cases q) aa_e73)
def aa_L75 : List aa_K := aa_m88 :: aa_L74
set_option maxRecDepth 100000 in
theorem aa_e74 : aa_chk aa_L74 aa_mfree aa_hook (fun _ => false) 400 aa_m88 = true := by decide +kernel
theorem aa_mL75 (hh : ∀ K ∈ aa_hands, aa_met aa_Phi K) : ∀ K ∈ aa_L75, aa_met aa_Phi K := aa_mcons (aa_mL74 hh) (aa_chk_ok aa_model_good (aa_mL74 hh) (fun _ _ q => by cases q) aa_e74)
def aa_L76 : List aa_K := aa_m89 :: aa_L75
set_option maxRecDepth 100000 in
theorem aa_e75 : aa_chk aa_L75 aa_mfree aa_hook (fun _ => false) 400 aa_m89 = true := by decide +kernel
theorem aa_mL76 (hh : ∀ K ∈ aa_hands, aa_met aa_Phi K) : ∀ K ∈ aa_L76, aa_met aa_Phi K := aa_mcons (aa_mL75 hh) (aa_chk_ok aa_model_good (aa_mL75 hh) (fun _ _ q => by cases q) aa_e75)
def aa_L77 : List aa_K := aa_m90 :: aa_L76
set_option maxRecDepth 100000 in
theorem aa_e76 : aa_chk aa_L76 aa_mfree aa_hook (fun _ => false) 400 aa_m90 = true := by decide +kernel
theorem aa_mL77 (hh : ∀ K ∈ aa_hands, aa_met aa_Phi K) : ∀ K ∈ aa_L77, aa_met aa_Phi K := aa_mcons (aa_mL76 hh) (aa_chk_ok aa_model_good (aa_mL76 hh) (fun _ _ q => by cases q) aa_e76)
def aa_L78 : List aa_K := aa_m91 :: aa_L77
set_option maxRecDepth 100000 in
theorem aa_e77 : aa_chk aa_L77 aa_mfree aa_hook (fun _ => false) 400 aa_m91 = true := by decide +kernel
theorem aa_mL78 (hh : ∀ K ∈ aa_hands, aa_met aa_Phi K) : ∀ K ∈ aa_L78, aa_met aa_Phi K := aa_mcons (aa_mL77 hh) (aa_chk_ok aa_model_good (aa_mL77 hh) (fun _ _ q => by cases q) aa_e77)
def aa_L79 : List aa_K := aa_m92 :: aa_L78
set_option maxRecDepth 100000 in
theorem aa_e78 : aa_chk aa_L78 aa_mfree aa_hook (fun _ => false) 400 aa_m92 = true := by decide +kernel
theorem aa_mL79 (hh : ∀ K ∈ aa_hands, aa_met aa_Phi K) : ∀ K ∈ aa_L79, aa_met aa_Phi K := aa_mcons (aa_mL78 hh) (aa_chk_ok aa_model_good (aa_mL78 hh) (fun _ _ q => by cases q) aa_e78)
def aa_L80 : List aa_K := aa_m93 :: aa_L79
set_option maxRecDepth 100000 in
theorem aa_e79 : aa_chk aa_L79 aa_mfree aa_hook (fun _ => false) 400 aa_m93 = true := by decide +kernel
theorem aa_mL80 (hh : ∀ K ∈ aa_hands, aa_met aa_Phi K) : ∀ K ∈ aa_L80, aa_met aa_Phi K := aa_mcons (aa_mL79 hh) (aa_chk_ok aa_model_good (aa_mL79 hh) (fun _ _ q => by cases q) aa_e79)
def aa_L81 : List aa_K := aa_m94 :: aa_L80
set_option maxRecDepth 100000 in
theorem aa_e80 : aa_chk aa_L80 aa_mfree aa_hook (fun _ => false) 400 aa_m94 = true := by decide +kernel
theorem aa_mL81 (hh : ∀ K ∈ aa_hands, aa_met aa_Phi K) : ∀ K ∈ aa_L81, aa_met aa_Phi K := aa_mcons (aa_mL80 hh) (aa_chk_ok aa_model_good (aa_mL80 hh) (fun _ _ q => by cases q) aa_e80)
def aa_L82 : List aa_K := aa_m95 :: aa_L81
set_option maxRecDepth 100000 in
theorem aa_e81 : aa_chk aa_L81 aa_mfree aa_hook (fun _ => false) 400 aa_m95 = true := by decide +kernel
theorem aa_mL82 (hh : ∀ K ∈ aa_hands, aa_met aa_Phi K) : ∀ K ∈ aa_L82, aa_met aa_Phi K := aa_mcons (aa_mL81 hh) (aa_chk_ok aa_model_good (aa_mL81 hh) (fun _ _ q => by cases q) aa_e81)
def aa_L83 : List aa_K := aa_m96 :: aa_L82
set_option maxRecDepth 100000 in
theorem aa_e82 : aa_chk aa_L82 aa_mfree aa_hook (fun _ => false) 400 aa_m96 = true := by decide +kernel
theorem aa_mL83 (hh : ∀ K ∈ aa_hands, aa_met aa_Phi K) : ∀ K ∈ aa_L83, aa_met aa_Phi K := aa_mcons (aa_mL82 hh) (aa_chk_ok aa_model_good (aa_mL82 hh) (fun _ _ q => by cases q) aa_e82)
def aa_L84 : List aa_K := aa_m97 :: aa_L83
set_option maxRecDepth 100000 in
theorem aa_e83 : aa_chk aa_L83 aa_mfree aa_hook (fun _ => false) 400 aa_m97 = true := by decide +kernel
theorem aa_mL84 (hh : ∀ K ∈ aa_hands, aa_met aa_Phi K) : ∀ K ∈ aa_L84, aa_met aa_Phi K := aa_mcons (aa_mL83 hh) (aa_chk_ok aa_model_good (aa_mL83 hh) (fun _ _ q => by cases q) aa_e83)
def aa_L85 : List aa_K := aa_m98 :: aa_L84
set_option maxRecDepth 100000 in
theorem aa_e84 : aa_chk aa_L84 aa_mfree aa_hook (fun _ => false) 400 aa_m98 = true := by decide +kernel
theorem aa_mL85 (hh : ∀ K ∈ aa_hands, aa_met aa_Phi K) : ∀ K ∈ aa_L85, aa_met aa_Phi K := aa_mcons (aa_mL84 hh) (aa_chk_ok aa_model_good (aa_mL84 hh) (fun _ _ q => by cases q) aa_e84)
def aa_L86 : List aa_K := aa_m99 :: aa_L85
set_option maxRecDepth 100000 in
theorem aa_e85 : aa_chk aa_L85 aa_mfree aa_hook (fun _ => false) 400 aa_m99 = true := by decide +kernel
theorem aa_mL86 (hh : ∀ K ∈ aa_hands, aa_met aa_Phi K) : ∀ K ∈ aa_L86, aa_met aa_Phi K := aa_mcons (aa_mL85 hh) (aa_chk_ok aa_model_good (aa_mL85 hh) (fun _ _ q => by cases q) aa_e85)
def aa_L87 : List aa_K := aa_m100 :: aa_L86
set_option maxRecDepth 100000 in
theorem aa_e86 : aa_chk aa_L86 aa_mfree aa_hook (fun _ => false) 400 aa_m100 = true := by decide +kernel
theorem aa_mL87 (hh : ∀ K ∈ aa_hands, aa_met aa_Phi K) : ∀ K ∈ aa_L87, aa_met aa_Phi K := aa_mcons (aa_mL86 hh) (aa_chk_ok aa_model_good (aa_mL86 hh) (fun _ _ q => by cases q) aa_e86)
def aa_L88 : List aa_K := aa_m101 :: aa_L87
set_option maxRecDepth 100000 in
theorem aa_e87 : aa_chk aa_L87 aa_mfree aa_hook (fun _ => false) 400 aa_m101 = true := by decide +kernel
theorem aa_mL88 (hh : ∀ K ∈ aa_hands, aa_met aa_Phi K) : ∀ K ∈ aa_L88, aa_met aa_Phi K := aa_mcons (aa_mL87 hh) (aa_chk_ok aa_model_good (aa_mL87 hh) (fun _ _ q => by cases q) aa_e87)
def aa_L89 : List aa_K := aa_m102 :: aa_L88
set_option maxRecDepth 100000 in
theorem aa_e88 : aa_chk aa_L88 aa_mfree aa_hook (fun _ => false) 400 aa_m102 = true := by decide +kernel
theorem aa_mL89 (hh : ∀ K ∈ aa_hands, aa_met aa_Phi K) : ∀ K ∈ aa_L89, aa_met aa_Phi K := aa_mcons (aa_mL88 hh) (aa_chk_ok aa_model_good (aa_mL88 hh) (fun _ _ q => by cases q) aa_e88)
def aa_L90 : List aa_K := aa_m103 :: aa_L89
set_option maxRecDepth 100000 in
theorem aa_e89 : aa_chk aa_L89 aa_mfree aa_hook (fun _ => false) 400 aa_m103 = true := by decide +kernel
theorem aa_mL90 (hh : ∀ K ∈ aa_hands, aa_met aa_Phi K) : ∀ K ∈ aa_L90, aa_met aa_Phi K := aa_mcons (aa_mL89 hh) (aa_chk_ok aa_model_good (aa_mL89 hh) (fun _ _ q => by cases q) aa_e89)
def aa_L91 : List aa_K := aa_m104 :: aa_L90
set_option maxRecDepth 100000 in
theorem aa_e90 : aa_chk aa_L90 aa_mfree aa_hook (fun _ => false) 400 aa_m104 = true := by decide +kernel
theorem aa_mL91 (hh : ∀ K ∈ aa_hands, aa_met aa_Phi K) : ∀ K ∈ aa_L91, aa_met aa_Phi K := aa_mcons (aa_mL90 hh) (aa_chk_ok aa_model_good (aa_mL90 hh) (fun _ _ q => by cases q) aa_e90)
def aa_L92 : List aa_K := aa_m105 :: aa_L91
set_option maxRecDepth 100000 in
theorem aa_e91 : aa_chk aa_L91 aa_mfree aa_hook (fun _ => false) 400 aa_m105 = true := by decide +kernel
theorem aa_mL92 (hh : ∀ K ∈ aa_hands, aa_met aa_Phi K) : ∀ K ∈ aa_L92, aa_met aa_Phi K := aa_mcons (aa_mL91 hh) (aa_chk_ok aa_model_good (aa_mL91 hh) (fun _ _ q => by cases q) aa_e91)
def aa_L93 : List aa_K := aa_m106 :: aa_L92
set_option maxRecDepth 100000 in
theorem aa_e92 : aa_chk aa_L92 aa_mfree aa_hook (fun _ => false) 400 aa_m106 = true := by decide +kernel
theorem aa_mL93 (hh : ∀ K ∈ aa_hands, aa_met aa_Phi K) : ∀ K ∈ aa_L93, aa_met aa_Phi K := aa_mcons (aa_mL92 hh) (aa_chk_ok aa_model_good (aa_mL92 hh) (fun _ _ q => by cases q) aa_e92)
def aa_L94 : List aa_K := aa_m107 :: aa_L93
set_option maxRecDepth 100000 in
theorem aa_e93 : aa_chk aa_L93 aa_mfree aa_hook (fun _ => false) 400 aa_m107 = true := by decide +kernel
theorem aa_mL94 (hh : ∀ K ∈ aa_hands, aa_met aa_Phi K) : ∀ K ∈ aa_L94, aa_met aa_Phi K := aa_mcons (aa_mL93 hh) (aa_chk_ok aa_model_good (aa_mL93 hh) (fun _ _ q => by cases q) aa_e93)
def aa_L95 : List aa_K := aa_m108 :: aa_L94
set_option maxRecDepth 100000 in
theorem aa_e94 : aa_chk aa_L94 aa_mfree aa_hook (fun _ => false) 400 aa_m108 = true := by decide +kernel
theorem aa_mL95 (hh : ∀ K ∈ aa_hands, aa_met aa_Phi K) : ∀ K ∈ aa_L95, aa_met aa_Phi K := aa_mcons (aa_mL94 hh) (aa_chk_ok aa_model_good (aa_mL94 hh) (fun _ _ q => by cases q) aa_e94)
def aa_L96 : List aa_K := aa_m109 :: aa_L95
set_option maxRecDepth 100000 in
theorem aa_e95 : aa_chk aa_L95 aa_mfree aa_hook (fun _ => false) 400 aa_m109 = true := by decide +kernel
theorem aa_mL96 (hh : ∀ K ∈ aa_hands, aa_met aa_Phi K) : ∀ K ∈ aa_L96, aa_met aa_Phi K := aa_mcons (aa_mL95 hh) (aa_chk_ok aa_model_good (aa_mL95 hh) (fun _ _ q => by cases q) aa_e95)
def aa_L97 : List aa_K := aa_m110 :: aa_L96
set_option maxRecDepth 100000 in
theorem aa_e96 : aa_chk aa_L96 aa_mfree aa_hook (fun _ => false) 400 aa_m110 = true := by decide +kernel
theorem aa_mL97 (hh : ∀ K ∈ aa_hands, aa_met aa_Phi K) : ∀ K ∈ aa_L97, aa_met aa_Phi K := aa_mcons (aa_mL96 hh) (aa_chk_ok aa_model_good (aa_mL96 hh) (fun _ _ q => by cases q) aa_e96)
def aa_L98 : List aa_K := aa_m111 :: aa_L97
set_option maxRecDepth 100000 in
theorem aa_e97 : aa_chk aa_L97 aa_mfree aa_hook (fun _ => false) 400 aa_m111 = true := by decide +kernel
theorem aa_mL98 (hh : ∀ K ∈ aa_hands, aa_met aa_Phi K) : ∀ K ∈ aa_L98, aa_met aa_Phi K := aa_mcons (aa_mL97 hh) (aa_chk_ok aa_model_good (aa_mL97 hh) (fun _ _ q => by cases q) aa_e97)
def aa_L99 : List aa_K := aa_m112 :: aa_L98
set_option maxRecDepth 100000 in
theorem aa_e98 : aa_chk aa_L98 aa_mfree aa_hook (fun _ => false) 400 aa_m112 = true := by decide +kernel
theorem aa_mL99 (hh : ∀ K ∈ aa_hands, aa_met aa_Phi K) : ∀ K ∈ aa_L99, aa_met aa_Phi K := aa_mcons (aa_mL98 hh) (aa_chk_ok aa_model_good (aa_mL98 hh) (fun _ _ q => by cases q) aa_e98)
def aa_L100 : List aa_K := aa_m113 :: aa_L99
set_option maxRecDepth 100000 in
theorem aa_e99 : aa_chk aa_L99 aa_mfree aa_hook (fun _ => false) 400 aa_m113 = true := by decide +kernel
theorem aa_mL100 (hh : ∀ K ∈ aa_hands, aa_met aa_Phi K) : ∀ K ∈ aa_L100, aa_met aa_Phi K := aa_mcons (aa_mL99 hh) (aa_chk_ok aa_model_good (aa_mL99 hh) (fun _ _ q => by cases q) aa_e99)
def aa_L101 : List aa_K := aa_m114 :: aa_L100
set_option maxRecDepth 100000 in
theorem aa_e100 : aa_chk aa_L100 aa_mfree aa_hook (fun _ => false) 400 aa_m114 = true := by decide +kernel
theorem aa_mL101 (hh : ∀ K ∈ aa_hands, aa_met aa_Phi K) : ∀ K ∈ aa_L101, aa_met aa_Phi K := aa_mcons (aa_mL100 hh) (aa_chk_ok aa_model_good (aa_mL100 hh) (fun _ _ q => by cases q) aa_e100)
def aa_L102 : List aa_K := aa_m115 :: aa_L101
set_option maxRecDepth 100000 in
theorem aa_e101 : aa_chk aa_L101 aa_mfree aa_hook (fun _ => false) 400 aa_m115 = true := by decide +kernel
theorem aa_mL102 (hh : ∀ K ∈ aa_hands, aa_met aa_Phi K) : ∀ K ∈ aa_L102, aa_met aa_Phi K := aa_mcons (aa_mL101 hh) (aa_chk_ok aa_model_good (aa_mL101 hh) (fun _ _ q => by cases q) aa_e101)
def aa_L103 : List aa_K := aa_m116 :: aa_L102
set_option maxRecDepth 100000 in
theorem aa_e102 : aa_chk aa_L102 aa_mfree aa_hook (fun _ => false) 400 aa_m116 = true := by decide +kernel
theorem aa_mL103 (hh : ∀ K ∈ aa_hands, aa_met aa_Phi K) : ∀ K ∈ aa_L103, aa_met aa_Phi K := aa_mcons (aa_mL102 hh) (aa_chk_ok aa_model_good (aa_mL102 hh) (fun _ _ q => by cases q) aa_e102)
def aa_L104 : List aa_K := aa_m117 :: aa_L103
set_option maxRecDepth 100000 in
theorem aa_e103 : aa_chk aa_L103 aa_mfree aa_hook (fun _ => false) 400 aa_m117 = true := by decide +kernel
theorem aa_mL104 (hh : ∀ K ∈ aa_hands, aa_met aa_Phi K) : ∀ K ∈ aa_L104, aa_met aa_Phi K := aa_mcons (aa_mL103 hh) (aa_chk_ok aa_model_good (aa_mL103 hh) (fun _ _ q => by cases q) aa_e103)
def aa_L105 : List aa_K := aa_m118 :: aa_L104
set_option maxRecDepth 100000 in
theorem aa_e104 : aa_chk aa_L104 aa_mfree aa_hook (fun _ => false) 400 aa_m118 = true := by decide +kernel
theorem aa_mL105 (hh : ∀ K ∈ aa_hands, aa_met aa_Phi K) : ∀ K ∈ aa_L105, aa_met aa_Phi K := aa_mcons (aa_mL104 hh) (aa_chk_ok aa_model_good (aa_mL104 hh) (fun _ _ q => by cases q) aa_e104)
def aa_L106 : List aa_K := aa_m119 :: aa_L105
set_option maxRecDepth 100000 in
theorem aa_e105 : aa_chk aa_L105 aa_mfree aa_hook (fun _ => false) 400 aa_m119 = true := by decide +kernel
theorem aa_mL106 (hh : ∀ K ∈ aa_hands, aa_met aa_Phi K) : ∀ K ∈ aa_L106, aa_met aa_Phi K := aa_mcons (aa_mL105 hh) (aa_chk_ok aa_model_good (aa_mL105 hh) (fun _ _ q => by cases q) aa_e105)
def aa_L107 : List aa_K := aa_m120 :: aa_L106
set_option maxRecDepth 100000 in
theorem aa_e106 : aa_chk aa_L106 aa_mfree aa_hook (fun _ => false) 400 aa_m120 = true := by decide +kernel
theorem aa_mL107 (hh : ∀ K ∈ aa_hands, aa_met aa_Phi K) : ∀ K ∈ aa_L107, aa_met aa_Phi K := aa_mcons (aa_mL106 hh) (aa_chk_ok aa_model_good (aa_mL106 hh) (fun _ _ q => by cases q) aa_e106)
set_option maxRecDepth 100000 in
theorem aa_dbells : aa_chk aa_L107 aa_mfree aa_hook (fun pc => Nat.beq pc 55) 400 aa_m121 = true := by decide +kernel
