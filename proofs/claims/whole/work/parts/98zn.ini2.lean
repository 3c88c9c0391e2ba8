/-! PURE 87: what stands at the start -/
theorem cl_1 : (nI 1).toNatClampNeg = 1 := by decide
theorem cb_1 (r : Option Res) : bI (¬ (nI 1 < 0 ∨ 67108864 < 1)) r = r := bI_t (by decide) r
theorem sx108 {p : Nat} (h1 : p < 52) : hget G108_ p = hget G107_ p := hget_push (h := G107_) (o := oO 12 [aI 0, aN, aI 0, aN, aN, aI 0, aN, aI 0, aI 0, aI 0, aI 0, aN, aI 0, aN, aN, aN, aI 0, aN, aN, aN, aI 0, aI 0, aI 0, aN, aN, aI 0, aN, aI 0, aN, aN, aI 0, aN, aI 0, aN, aN]) (by rw [gf243]; exact h1)
theorem sx109 {p : Nat} (h1 : p < 53) : hget G109_ p = hget G108_ p := hget_push (h := G108_) (o := oI 0 120 (fun _ => 0)) (by rw [gf245]; exact h1)
theorem sx110 {p : Nat} (h2 : ¬ p = 52) : hget G110_ p = hget G109_ p := hget_ne (h := G109_) (o := oO 12 [aI 0, aD 53, aI 0, aN, aN, aI 0, aN, aI 0, aI 0, aI 0, aI 0, aN, aI 0, aN, aN, aN, aI 0, aN, aN, aN, aI 0, aI 0, aI 0, aN, aN, aI 0, aN, aI 0, aN, aN, aI 0, aN, aI 0, aN, aN]) h2
theorem sx111 {p : Nat} (h1 : p < 54) : hget G111_ p = hget G110_ p := hget_push (h := G110_) (o := oI 0 301 (fun _ => 0)) (by rw [gf251]; exact h1)
theorem sx112 {p : Nat} (h2 : ¬ p = 52) : hget G112_ p = hget G111_ p := hget_ne (h := G111_) (o := oO 12 [aI 0, aD 53, aI 0, aD 54, aN, aI 0, aN, aI 0, aI 0, aI 0, aI 0, aN, aI 0, aN, aN, aN, aI 0, aN, aN, aN, aI 0, aI 0, aI 0, aN, aN, aI 0, aN, aI 0, aN, aN, aI 0, aN, aI 0, aN, aN]) h2
theorem sx113 {p : Nat} (h1 : p < 55) : hget G113_ p = hget G112_ p := hget_push (h := G112_) (o := oI 0 2408 (fun _ => 0)) (by rw [gf257]; exact h1)
theorem sx114 {p : Nat} (h2 : ¬ p = 52) : hget G114_ p = hget G113_ p := hget_ne (h := G113_) (o := oO 12 [aI 0, aD 53, aI 0, aD 54, aD 55, aI 0, aN, aI 0, aI 0, aI 0, aI 0, aN, aI 0, aN, aN, aN, aI 0, aN, aN, aN, aI 0, aI 0, aI 0, aN, aN, aI 0, aN, aI 0, aN, aN, aI 0, aN, aI 0, aN, aN]) h2
theorem sx115 {p : Nat} (h1 : p < 56) : hget G115_ p = hget G114_ p := hget_push (h := G114_) (o := oI 1 120 (fun _ => 0)) (by rw [gf263]; exact h1)
theorem sx116 {p : Nat} (h2 : ¬ p = 52) : hget G116_ p = hget G115_ p := hget_ne (h := G115_) (o := oO 12 [aI 0, aD 53, aI 0, aD 54, aD 55, aI 0, aD 56, aI 0, aI 0, aI 0, aI 0, aN, aI 0, aN, aN, aN, aI 0, aN, aN, aN, aI 0, aI 0, aI 0, aN, aN, aI 0, aN, aI 0, aN, aN, aI 0, aN, aI 0, aN, aN]) h2
theorem sx117 {p : Nat} (h1 : p < 57) : hget G117_ p = hget G116_ p := hget_push (h := G116_) (o := oI 0 244 (fun _ => 0)) (by rw [gf269]; exact h1)
theorem sx118 {p : Nat} (h2 : ¬ p = 52) : hget G118_ p = hget G117_ p := hget_ne (h := G117_) (o := oO 12 [aI 0, aD 53, aI 0, aD 54, aD 55, aI 0, aD 56, aI 0, aI 0, aI 0, aI 0, aD 57, aI 0, aN, aN, aN, aI 0, aN, aN, aN, aI 0, aI 0, aI 0, aN, aN, aI 0, aN, aI 0, aN, aN, aI 0, aN, aI 0, aN, aN]) h2
theorem sx119 {p : Nat} (h1 : p < 58) : hget G119_ p = hget G118_ p := hget_push (h := G118_) (o := oI 3 62 (fun _ => 0)) (by rw [gf275]; exact h1)
theorem sx120 {p : Nat} (h2 : ¬ p = 52) : hget G120_ p = hget G119_ p := hget_ne (h := G119_) (o := oO 12 [aI 0, aD 53, aI 0, aD 54, aD 55, aI 0, aD 56, aI 0, aI 0, aI 0, aI 0, aD 57, aI 0, aD 58, aN, aN, aI 0, aN, aN, aN, aI 0, aI 0, aI 0, aN, aN, aI 0, aN, aI 0, aN, aN, aI 0, aN, aI 0, aN, aN]) h2
theorem sx121 {p : Nat} (h1 : p < 59) : hget G121_ p = hget G120_ p := hget_push (h := G120_) (o := oI 0 62 (fun _ => 0)) (by rw [gf281]; exact h1)
theorem sx122 {p : Nat} (h2 : ¬ p = 52) : hget G122_ p = hget G121_ p := hget_ne (h := G121_) (o := oO 12 [aI 0, aD 53, aI 0, aD 54, aD 55, aI 0, aD 56, aI 0, aI 0, aI 0, aI 0, aD 57, aI 0, aD 58, aD 59, aN, aI 0, aN, aN, aN, aI 0, aI 0, aI 0, aN, aN, aI 0, aN, aI 0, aN, aN, aI 0, aN, aI 0, aN, aN]) h2
theorem sx123 {p : Nat} (h1 : p < 60) : hget G123_ p = hget G122_ p := hget_push (h := G122_) (o := oI 1 1200 (fun _ => 0)) (by rw [gf287]; exact h1)
theorem sx124 {p : Nat} (h2 : ¬ p = 52) : hget G124_ p = hget G123_ p := hget_ne (h := G123_) (o := oO 12 [aI 0, aD 53, aI 0, aD 54, aD 55, aI 0, aD 56, aI 0, aI 0, aI 0, aI 0, aD 57, aI 0, aD 58, aD 59, aD 60, aI 0, aN, aN, aN, aI 0, aI 0, aI 0, aN, aN, aI 0, aN, aI 0, aN, aN, aI 0, aN, aI 0, aN, aN]) h2
theorem sx125 {p : Nat} (h1 : p < 61) : hget G125_ p = hget G124_ p := hget_push (h := G124_) (o := oI 0 24 (fun _ => 0)) (by rw [gf293]; exact h1)
theorem sx126 {p : Nat} (h2 : ¬ p = 52) : hget G126_ p = hget G125_ p := hget_ne (h := G125_) (o := oO 12 [aI 0, aD 53, aI 0, aD 54, aD 55, aI 0, aD 56, aI 0, aI 0, aI 0, aI 0, aD 57, aI 0, aD 58, aD 59, aD 60, aI 0, aD 61, aN, aN, aI 0, aI 0, aI 0, aN, aN, aI 0, aN, aI 0, aN, aN, aI 0, aN, aI 0, aN, aN]) h2
theorem sx127 {p : Nat} (h1 : p < 62) : hget G127_ p = hget G126_ p := hget_push (h := G126_) (o := oI 0 24 (fun _ => 0)) (by rw [gf299]; exact h1)
theorem sx128 {p : Nat} (h2 : ¬ p = 52) : hget G128_ p = hget G127_ p := hget_ne (h := G127_) (o := oO 12 [aI 0, aD 53, aI 0, aD 54, aD 55, aI 0, aD 56, aI 0, aI 0, aI 0, aI 0, aD 57, aI 0, aD 58, aD 59, aD 60, aI 0, aD 61, aD 62, aN, aI 0, aI 0, aI 0, aN, aN, aI 0, aN, aI 0, aN, aN, aI 0, aN, aI 0, aN, aN]) h2
theorem sx129 {p : Nat} (h1 : p < 63) : hget G129_ p = hget G128_ p := hget_push (h := G128_) (o := oI 0 2000 (fun _ => 0)) (by rw [gf305]; exact h1)
theorem sx130 {p : Nat} (h2 : ¬ p = 52) : hget G130_ p = hget G129_ p := hget_ne (h := G129_) (o := oO 12 [aI 0, aD 53, aI 0, aD 54, aD 55, aI 0, aD 56, aI 0, aI 0, aI 0, aI 0, aD 57, aI 0, aD 58, aD 59, aD 60, aI 0, aD 61, aD 62, aD 63, aI 0, aI 0, aI 0, aN, aN, aI 0, aN, aI 0, aN, aN, aI 0, aN, aI 0, aN, aN]) h2
theorem sx131 {p : Nat} (h1 : p < 64) : hget G131_ p = hget G130_ p := hget_push (h := G130_) (o := oI 0 24 (fun _ => 0)) (by rw [gf311]; exact h1)
theorem sx132 {p : Nat} (h2 : ¬ p = 52) : hget G132_ p = hget G131_ p := hget_ne (h := G131_) (o := oO 12 [aI 0, aD 53, aI 0, aD 54, aD 55, aI 0, aD 56, aI 0, aI 0, aI 0, aI 0, aD 57, aI 0, aD 58, aD 59, aD 60, aI 0, aD 61, aD 62, aD 63, aI 0, aI 0, aI 0, aD 64, aN, aI 0, aN, aI 0, aN, aN, aI 0, aN, aI 0, aN, aN]) h2
theorem sx133 {p : Nat} (h1 : p < 65) : hget G133_ p = hget G132_ p := hget_push (h := G132_) (o := oI 0 2000 (fun _ => 0)) (by rw [gf317]; exact h1)
theorem sx134 {p : Nat} (h2 : ¬ p = 52) : hget G134_ p = hget G133_ p := hget_ne (h := G133_) (o := oO 12 [aI 0, aD 53, aI 0, aD 54, aD 55, aI 0, aD 56, aI 0, aI 0, aI 0, aI 0, aD 57, aI 0, aD 58, aD 59, aD 60, aI 0, aD 61, aD 62, aD 63, aI 0, aI 0, aI 0, aD 64, aD 65, aI 0, aN, aI 0, aN, aN, aI 0, aN, aI 0, aN, aN]) h2
theorem sx135 {p : Nat} (h1 : p < 66) : hget G135_ p = hget G134_ p := hget_push (h := G134_) (o := oI 0 24 (fun _ => 0)) (by rw [gf323]; exact h1)
theorem sx136 {p : Nat} (h2 : ¬ p = 52) : hget G136_ p = hget G135_ p := hget_ne (h := G135_) (o := oO 12 [aI 0, aD 53, aI 0, aD 54, aD 55, aI 0, aD 56, aI 0, aI 0, aI 0, aI 0, aD 57, aI 0, aD 58, aD 59, aD 60, aI 0, aD 61, aD 62, aD 63, aI 0, aI 0, aI 0, aD 64, aD 65, aI 0, aD 66, aI 0, aN, aN, aI 0, aN, aI 0, aN, aN]) h2
theorem sx137 {p : Nat} (h1 : p < 67) : hget G137_ p = hget G136_ p := hget_push (h := G136_) (o := oI 0 16 (fun _ => 0)) (by rw [gf329]; exact h1)
theorem sx138 {p : Nat} (h2 : ¬ p = 52) : hget G138_ p = hget G137_ p := hget_ne (h := G137_) (o := oO 12 [aI 0, aD 53, aI 0, aD 54, aD 55, aI 0, aD 56, aI 0, aI 0, aI 0, aI 0, aD 57, aI 0, aD 58, aD 59, aD 60, aI 0, aD 61, aD 62, aD 63, aI 0, aI 0, aI 0, aD 64, aD 65, aI 0, aD 66, aI 0, aD 67, aN, aI 0, aN, aI 0, aN, aN]) h2
theorem sx139 {p : Nat} (h1 : p < 68) : hget G139_ p = hget G138_ p := hget_push (h := G138_) (o := oI 0 2000 (fun _ => 0)) (by rw [gf335]; exact h1)
theorem sx140 {p : Nat} (h2 : ¬ p = 52) : hget G140_ p = hget G139_ p := hget_ne (h := G139_) (o := oO 12 [aI 0, aD 53, aI 0, aD 54, aD 55, aI 0, aD 56, aI 0, aI 0, aI 0, aI 0, aD 57, aI 0, aD 58, aD 59, aD 60, aI 0, aD 61, aD 62, aD 63, aI 0, aI 0, aI 0, aD 64, aD 65, aI 0, aD 66, aI 0, aD 67, aD 68, aI 0, aN, aI 0, aN, aN]) h2
theorem sx141 {p : Nat} (h1 : p < 69) : hget G141_ p = hget G140_ p := hget_push (h := G140_) (o := oI 0 120 (fun _ => 0)) (by rw [gf341]; exact h1)
theorem sx142 {p : Nat} (h2 : ¬ p = 52) : hget G142_ p = hget G141_ p := hget_ne (h := G141_) (o := oO 12 [aI 0, aD 53, aI 0, aD 54, aD 55, aI 0, aD 56, aI 0, aI 0, aI 0, aI 0, aD 57, aI 0, aD 58, aD 59, aD 60, aI 0, aD 61, aD 62, aD 63, aI 0, aI 0, aI 0, aD 64, aD 65, aI 0, aD 66, aI 0, aD 67, aD 68, aI 0, aD 69, aI 0, aN, aN]) h2
theorem sx143 {p : Nat} (h1 : p < 70) : hget G143_ p = hget G142_ p := hget_push (h := G142_) (o := oI 0 301 (fun _ => 0)) (by rw [gf347]; exact h1)
theorem sx144 {p : Nat} (h2 : ¬ p = 52) : hget G144_ p = hget G143_ p := hget_ne (h := G143_) (o := oO 12 [aI 0, aD 53, aI 0, aD 54, aD 55, aI 0, aD 56, aI 0, aI 0, aI 0, aI 0, aD 57, aI 0, aD 58, aD 59, aD 60, aI 0, aD 61, aD 62, aD 63, aI 0, aI 0, aI 0, aD 64, aD 65, aI 0, aD 66, aI 0, aD 67, aD 68, aI 0, aD 69, aI 0, aD 70, aN]) h2
theorem sx145 {p : Nat} (h1 : p < 71) : hget G145_ p = hget G144_ p := hget_push (h := G144_) (o := oI 0 24 (fun _ => 0)) (by rw [gf353]; exact h1)
theorem sx146 {p : Nat} (h2 : ¬ p = 52) : hget G146_ p = hget G145_ p := hget_ne (h := G145_) (o := oO 12 [aI 0, aD 53, aI 0, aD 54, aD 55, aI 0, aD 56, aI 0, aI 0, aI 0, aI 0, aD 57, aI 0, aD 58, aD 59, aD 60, aI 0, aD 61, aD 62, aD 63, aI 0, aI 0, aI 0, aD 64, aD 65, aI 0, aD 66, aI 0, aD 67, aD 68, aI 0, aD 69, aI 0, aD 70, aD 71]) h2
theorem sx147 {p : Nat} (h1 : p < 72) : hget G147_ p = hget G146_ p := hget_push (h := G146_) (o := oL 1 (fun _ => 0)) (by rw [gf359]; exact h1)
theorem sx148 {p : Nat} (h1 : p < 73) : hget G148_ p = hget G147_ p := hget_push (h := G147_) (o := oE 1 (fun _ => 0)) (by rw [gf362]; exact h1)
theorem tx148 {p : Nat} (_ : p < 74) (_ : ¬ p = 52) : hget G148_ p = hget G148_ p := rfl
theorem tx147 {p : Nat} (h1 : p < 73) (h2 : ¬ p = 52) : hget G148_ p = hget G147_ p := (tx148 (by omega) h2).trans (sx148 h1)
theorem tx146 {p : Nat} (h1 : p < 72) (h2 : ¬ p = 52) : hget G148_ p = hget G146_ p := (tx147 (by omega) h2).trans (sx147 h1)
theorem tx145 {p : Nat} (h1 : p < 72) (h2 : ¬ p = 52) : hget G148_ p = hget G145_ p := (tx146 (by omega) h2).trans (sx146 h2)
theorem tx144 {p : Nat} (h1 : p < 71) (h2 : ¬ p = 52) : hget G148_ p = hget G144_ p := (tx145 (by omega) h2).trans (sx145 h1)
theorem tx143 {p : Nat} (h1 : p < 71) (h2 : ¬ p = 52) : hget G148_ p = hget G143_ p := (tx144 (by omega) h2).trans (sx144 h2)
theorem tx142 {p : Nat} (h1 : p < 70) (h2 : ¬ p = 52) : hget G148_ p = hget G142_ p := (tx143 (by omega) h2).trans (sx143 h1)
theorem tx141 {p : Nat} (h1 : p < 70) (h2 : ¬ p = 52) : hget G148_ p = hget G141_ p := (tx142 (by omega) h2).trans (sx142 h2)
theorem tx140 {p : Nat} (h1 : p < 69) (h2 : ¬ p = 52) : hget G148_ p = hget G140_ p := (tx141 (by omega) h2).trans (sx141 h1)
theorem tx139 {p : Nat} (h1 : p < 69) (h2 : ¬ p = 52) : hget G148_ p = hget G139_ p := (tx140 (by omega) h2).trans (sx140 h2)
theorem tx138 {p : Nat} (h1 : p < 68) (h2 : ¬ p = 52) : hget G148_ p = hget G138_ p := (tx139 (by omega) h2).trans (sx139 h1)
theorem tx137 {p : Nat} (h1 : p < 68) (h2 : ¬ p = 52) : hget G148_ p = hget G137_ p := (tx138 (by omega) h2).trans (sx138 h2)
theorem tx136 {p : Nat} (h1 : p < 67) (h2 : ¬ p = 52) : hget G148_ p = hget G136_ p := (tx137 (by omega) h2).trans (sx137 h1)
theorem tx135 {p : Nat} (h1 : p < 67) (h2 : ¬ p = 52) : hget G148_ p = hget G135_ p := (tx136 (by omega) h2).trans (sx136 h2)
theorem tx134 {p : Nat} (h1 : p < 66) (h2 : ¬ p = 52) : hget G148_ p = hget G134_ p := (tx135 (by omega) h2).trans (sx135 h1)
theorem tx133 {p : Nat} (h1 : p < 66) (h2 : ¬ p = 52) : hget G148_ p = hget G133_ p := (tx134 (by omega) h2).trans (sx134 h2)
theorem tx132 {p : Nat} (h1 : p < 65) (h2 : ¬ p = 52) : hget G148_ p = hget G132_ p := (tx133 (by omega) h2).trans (sx133 h1)
theorem tx131 {p : Nat} (h1 : p < 65) (h2 : ¬ p = 52) : hget G148_ p = hget G131_ p := (tx132 (by omega) h2).trans (sx132 h2)
theorem tx130 {p : Nat} (h1 : p < 64) (h2 : ¬ p = 52) : hget G148_ p = hget G130_ p := (tx131 (by omega) h2).trans (sx131 h1)
theorem tx129 {p : Nat} (h1 : p < 64) (h2 : ¬ p = 52) : hget G148_ p = hget G129_ p := (tx130 (by omega) h2).trans (sx130 h2)
theorem tx128 {p : Nat} (h1 : p < 63) (h2 : ¬ p = 52) : hget G148_ p = hget G128_ p := (tx129 (by omega) h2).trans (sx129 h1)
theorem tx127 {p : Nat} (h1 : p < 63) (h2 : ¬ p = 52) : hget G148_ p = hget G127_ p := (tx128 (by omega) h2).trans (sx128 h2)
theorem tx126 {p : Nat} (h1 : p < 62) (h2 : ¬ p = 52) : hget G148_ p = hget G126_ p := (tx127 (by omega) h2).trans (sx127 h1)
theorem tx125 {p : Nat} (h1 : p < 62) (h2 : ¬ p = 52) : hget G148_ p = hget G125_ p := (tx126 (by omega) h2).trans (sx126 h2)
theorem tx124 {p : Nat} (h1 : p < 61) (h2 : ¬ p = 52) : hget G148_ p = hget G124_ p := (tx125 (by omega) h2).trans (sx125 h1)
theorem tx123 {p : Nat} (h1 : p < 61) (h2 : ¬ p = 52) : hget G148_ p = hget G123_ p := (tx124 (by omega) h2).trans (sx124 h2)
theorem tx122 {p : Nat} (h1 : p < 60) (h2 : ¬ p = 52) : hget G148_ p = hget G122_ p := (tx123 (by omega) h2).trans (sx123 h1)
theorem tx121 {p : Nat} (h1 : p < 60) (h2 : ¬ p = 52) : hget G148_ p = hget G121_ p := (tx122 (by omega) h2).trans (sx122 h2)
theorem tx120 {p : Nat} (h1 : p < 59) (h2 : ¬ p = 52) : hget G148_ p = hget G120_ p := (tx121 (by omega) h2).trans (sx121 h1)
theorem tx119 {p : Nat} (h1 : p < 59) (h2 : ¬ p = 52) : hget G148_ p = hget G119_ p := (tx120 (by omega) h2).trans (sx120 h2)
theorem tx118 {p : Nat} (h1 : p < 58) (h2 : ¬ p = 52) : hget G148_ p = hget G118_ p := (tx119 (by omega) h2).trans (sx119 h1)
theorem tx117 {p : Nat} (h1 : p < 58) (h2 : ¬ p = 52) : hget G148_ p = hget G117_ p := (tx118 (by omega) h2).trans (sx118 h2)
theorem tx116 {p : Nat} (h1 : p < 57) (h2 : ¬ p = 52) : hget G148_ p = hget G116_ p := (tx117 (by omega) h2).trans (sx117 h1)
theorem tx115 {p : Nat} (h1 : p < 57) (h2 : ¬ p = 52) : hget G148_ p = hget G115_ p := (tx116 (by omega) h2).trans (sx116 h2)
theorem tx114 {p : Nat} (h1 : p < 56) (h2 : ¬ p = 52) : hget G148_ p = hget G114_ p := (tx115 (by omega) h2).trans (sx115 h1)
theorem tx113 {p : Nat} (h1 : p < 56) (h2 : ¬ p = 52) : hget G148_ p = hget G113_ p := (tx114 (by omega) h2).trans (sx114 h2)
theorem tx112 {p : Nat} (h1 : p < 55) (h2 : ¬ p = 52) : hget G148_ p = hget G112_ p := (tx113 (by omega) h2).trans (sx113 h1)
theorem tx111 {p : Nat} (h1 : p < 55) (h2 : ¬ p = 52) : hget G148_ p = hget G111_ p := (tx112 (by omega) h2).trans (sx112 h2)
theorem tx110 {p : Nat} (h1 : p < 54) (h2 : ¬ p = 52) : hget G148_ p = hget G110_ p := (tx111 (by omega) h2).trans (sx111 h1)
theorem tx109 {p : Nat} (h1 : p < 54) (h2 : ¬ p = 52) : hget G148_ p = hget G109_ p := (tx110 (by omega) h2).trans (sx110 h2)
theorem tx108 {p : Nat} (h1 : p < 53) (h2 : ¬ p = 52) : hget G148_ p = hget G108_ p := (tx109 (by omega) h2).trans (sx109 h1)
theorem tx107 {p : Nat} (h1 : p < 52) (h2 : ¬ p = 52) : hget G148_ p = hget G107_ p := (tx108 (by omega) h2).trans (sx108 h1)
theorem rw53 : hget G148_ 53 = some (oI 0 120 (fun _ => 0)) := (tx109 (by omega) (by omega)).trans (by
  have z := hget_new (h := G108_) (o := oI 0 120 (fun _ => 0))
  rw [gf245] at z
  exact z)
theorem rw54 : hget G148_ 54 = some (oI 0 301 (fun _ => 0)) := (tx111 (by omega) (by omega)).trans (by
  have z := hget_new (h := G110_) (o := oI 0 301 (fun _ => 0))
  rw [gf251] at z
  exact z)
theorem rw55 : hget G148_ 55 = some (oI 0 2408 (fun _ => 0)) := (tx113 (by omega) (by omega)).trans (by
  have z := hget_new (h := G112_) (o := oI 0 2408 (fun _ => 0))
  rw [gf257] at z
  exact z)
theorem rw56 : hget G148_ 56 = some (oI 1 120 (fun _ => 0)) := (tx115 (by omega) (by omega)).trans (by
  have z := hget_new (h := G114_) (o := oI 1 120 (fun _ => 0))
  rw [gf263] at z
  exact z)
theorem rw57 : hget G148_ 57 = some (oI 0 244 (fun _ => 0)) := (tx117 (by omega) (by omega)).trans (by
  have z := hget_new (h := G116_) (o := oI 0 244 (fun _ => 0))
  rw [gf269] at z
  exact z)
theorem rw58 : hget G148_ 58 = some (oI 3 62 (fun _ => 0)) := (tx119 (by omega) (by omega)).trans (by
  have z := hget_new (h := G118_) (o := oI 3 62 (fun _ => 0))
  rw [gf275] at z
  exact z)
theorem rw59 : hget G148_ 59 = some (oI 0 62 (fun _ => 0)) := (tx121 (by omega) (by omega)).trans (by
  have z := hget_new (h := G120_) (o := oI 0 62 (fun _ => 0))
  rw [gf281] at z
  exact z)
theorem rw60 : hget G148_ 60 = some (oI 1 1200 (fun _ => 0)) := (tx123 (by omega) (by omega)).trans (by
  have z := hget_new (h := G122_) (o := oI 1 1200 (fun _ => 0))
  rw [gf287] at z
  exact z)
theorem rw61 : hget G148_ 61 = some (oI 0 24 (fun _ => 0)) := (tx125 (by omega) (by omega)).trans (by
  have z := hget_new (h := G124_) (o := oI 0 24 (fun _ => 0))
  rw [gf293] at z
  exact z)
theorem rw62 : hget G148_ 62 = some (oI 0 24 (fun _ => 0)) := (tx127 (by omega) (by omega)).trans (by
  have z := hget_new (h := G126_) (o := oI 0 24 (fun _ => 0))
  rw [gf299] at z
  exact z)
theorem rw63 : hget G148_ 63 = some (oI 0 2000 (fun _ => 0)) := (tx129 (by omega) (by omega)).trans (by
  have z := hget_new (h := G128_) (o := oI 0 2000 (fun _ => 0))
  rw [gf305] at z
  exact z)
theorem rw64 : hget G148_ 64 = some (oI 0 24 (fun _ => 0)) := (tx131 (by omega) (by omega)).trans (by
  have z := hget_new (h := G130_) (o := oI 0 24 (fun _ => 0))
  rw [gf311] at z
  exact z)
theorem rw65 : hget G148_ 65 = some (oI 0 2000 (fun _ => 0)) := (tx133 (by omega) (by omega)).trans (by
  have z := hget_new (h := G132_) (o := oI 0 2000 (fun _ => 0))
  rw [gf317] at z
  exact z)
theorem rw66 : hget G148_ 66 = some (oI 0 24 (fun _ => 0)) := (tx135 (by omega) (by omega)).trans (by
  have z := hget_new (h := G134_) (o := oI 0 24 (fun _ => 0))
  rw [gf323] at z
  exact z)
theorem rw67 : hget G148_ 67 = some (oI 0 16 (fun _ => 0)) := (tx137 (by omega) (by omega)).trans (by
  have z := hget_new (h := G136_) (o := oI 0 16 (fun _ => 0))
  rw [gf329] at z
  exact z)
theorem rw68 : hget G148_ 68 = some (oI 0 2000 (fun _ => 0)) := (tx139 (by omega) (by omega)).trans (by
  have z := hget_new (h := G138_) (o := oI 0 2000 (fun _ => 0))
  rw [gf335] at z
  exact z)
theorem rw69 : hget G148_ 69 = some (oI 0 120 (fun _ => 0)) := (tx141 (by omega) (by omega)).trans (by
  have z := hget_new (h := G140_) (o := oI 0 120 (fun _ => 0))
  rw [gf341] at z
  exact z)
theorem rw70 : hget G148_ 70 = some (oI 0 301 (fun _ => 0)) := (tx143 (by omega) (by omega)).trans (by
  have z := hget_new (h := G142_) (o := oI 0 301 (fun _ => 0))
  rw [gf347] at z
  exact z)
theorem rw71 : hget G148_ 71 = some (oI 0 24 (fun _ => 0)) := (tx145 (by omega) (by omega)).trans (by
  have z := hget_new (h := G144_) (o := oI 0 24 (fun _ => 0))
  rw [gf353] at z
  exact z)
theorem rw72 : hget G148_ 72 = some (oL 1 (fun _ => 0)) := (tx147 (by omega) (by omega)).trans (by
  have z := hget_new (h := G146_) (o := oL 1 (fun _ => 0))
  rw [gf359] at z
  exact z)
theorem rw73 : hget G148_ 73 = some (oE 1 (fun _ => 0)) := (tx148 (by omega) (by omega)).trans (by
  have z := hget_new (h := G147_) (o := oE 1 (fun _ => 0))
  rw [gf362] at z
  exact z)
theorem hg_cls : HG (fun p => 52 ≤ p) G107_ G148_ := fun p hp => tx107 (by first | omega | (dsimp only at hp; omega)) (by first | omega | (dsimp only at hp; omega))
theorem rh_0 : RH G148_ (fun _ => 0) (fun _ _ => 0) := by
  refine ⟨by rw [gf365]; decide, gf366, fun q h1 h2 => ?_⟩
  have hq : q = 53 ∨ q = 54 ∨ q = 55 ∨ q = 56 ∨ q = 57 ∨ q = 58 ∨ q = 59 ∨ q = 60 ∨ q = 61 ∨ q = 62 ∨ q = 63 ∨ q = 64 ∨ q = 65 ∨ q = 66 ∨ q = 67 ∨ q = 68 ∨ q = 69 ∨ q = 70 ∨ q = 71 := by omega
  rcases hq with rfl | rfl | rfl | rfl | rfl | rfl | rfl | rfl | rfl | rfl | rfl | rfl | rfl | rfl | rfl | rfl | rfl | rfl | rfl
  · exact rw53
  · exact rw54
  · exact rw55
  · exact rw56
  · exact rw57
  · exact rw58
  · exact rw59
  · exact rw60
  · exact rw61
  · exact rw62
  · exact rw63
  · exact rw64
  · exact rw65
  · exact rw66
  · exact rw67
  · exact rw68
  · exact rw69
  · exact rw70
  · exact rw71
def f_0 : Nat → Int32 := fun _ => 0
theorem pg_0 {h : AH} {p N : Nat} (h1 : hget h p = some (oO 8 [aD (p + 1), aI (nI 0)])) (h2 : hget h (p + 1) = some (oI 0 N f_0)) (hN : N ≤ 300) : PG h p N 0 f_0 := ⟨h1, h2, by omega, hN⟩
def X_0 : Nat → Nat → Int32 := xC 0 f_0
set_option maxRecDepth 20000 in
theorem c1_0 : C1 G107_ 0 f_0 := ⟨0, 0, 0, f_0, rfl, rfl, pg_0 rfl rfl (by omega)⟩
set_option maxRecDepth 20000 in
theorem c3_0 : C3 G107_ 0 X_0 := ⟨f_0, pg_0 rfl rfl (by omega), rfl⟩
set_option maxRecDepth 20000 in
theorem hi_0 : HI G107_ 18 20 0 0 := by
  refine ⟨rfl, FR8, rfl, fun i hi => ?_⟩
  have h8 : i = 0 ∨ i = 1 ∨ i = 2 ∨ i = 3 ∨ i = 4 ∨ i = 5 ∨ i = 6 ∨ i = 7 := by omega
  rcases h8 with rfl | rfl | rfl | rfl | rfl | rfl | rfl | rfl <;> rfl
set_option maxRecDepth 20000 in
theorem pgs_0 : ∀ i, i < 8 → PG G107_ (20 + 2 * i) 300 0 f_0 := by
  intro i hi
  have h8 : i = 0 ∨ i = 1 ∨ i = 2 ∨ i = 3 ∨ i = 4 ∨ i = 5 ∨ i = 6 ∨ i = 7 := by omega
  rcases h8 with rfl | rfl | rfl | rfl | rfl | rfl | rfl | rfl

  · exact pg_0 (p := 20) rfl rfl (by omega)
  · exact pg_0 (p := 22) rfl rfl (by omega)
  · exact pg_0 (p := 24) rfl rfl (by omega)
  · exact pg_0 (p := 26) rfl rfl (by omega)
  · exact pg_0 (p := 28) rfl rfl (by omega)
  · exact pg_0 (p := 30) rfl rfl (by omega)
  · exact pg_0 (p := 32) rfl rfl (by omega)
  · exact pg_0 (p := 34) rfl rfl (by omega)
def H_0 : HTy := fun _ => (0, X_0)
set_option maxRecDepth 20000 in
theorem c4_0 : C4 G107_ 0 X_0 0 H_0 := ⟨rfl, ⟨f_0, f_0, f_0, f_0, rfl, rfl, rfl, rfl, rfl⟩, ⟨f_0, pg_0 rfl rfl (by omega), rfl⟩, 0, hi_0, by omega, by omega, fun i hi => ⟨0, f_0, pgs_0 i hi, fun k hk => absurd hk (Nat.not_lt_zero k)⟩⟩
set_option maxRecDepth 20000 in
theorem c5_0 : C5 G107_ f_0 := ⟨f_0, rfl, fun _ _ => rfl⟩
set_option maxRecDepth 20000 in
theorem ma_38 : MA G107_ 38 f_0 2000 f_0 0 0 := ⟨rfl, rfl, rfl, by omega⟩
set_option maxRecDepth 20000 in
theorem ma_41 : MA G107_ 41 f_0 2000 f_0 0 0 := ⟨rfl, rfl, rfl, by omega⟩
set_option maxRecDepth 20000 in
theorem ma_44 : MA G107_ 44 f_0 300 f_0 0 0 := ⟨rfl, rfl, rfl, by omega⟩
set_option maxRecDepth 20000 in
theorem bo_0 : BO G107_ 38 41 false false := rfl
set_option maxRecDepth 20000 in
theorem c6_0 : C6 G107_ none false := ⟨38, 41, bo_0, Or.inl ⟨rfl, rfl⟩, ⟨f_0, f_0, 0, 0, ma_38, fun k hk => by cases hk⟩, ⟨f_0, f_0, 0, 0, ma_41, fun k hk => by cases hk⟩, ⟨f_0, f_0, 0, 0, ma_44⟩, f_0, rfl⟩
set_option maxRecDepth 20000 in
theorem c7_0 : C7 G107_ none := ⟨0, f_0, 0, f_0, f_0, pg_0 rfl rfl (by omega), pg_0 rfl rfl (by omega), rfl, fun v hv => by cases hv⟩
set_option maxRecDepth 20000 in
theorem c2_0 : C2 G148_ [] := by
  refine ⟨7, 16, (tx107 (by omega) (by omega)).trans rfl, ⟨false, f_0, (tx107 (by omega) (by omega)).trans rfl, (tx107 (by omega) (by omega)).trans rfl, by omega, by decide, by omega, by omega, fun i hi => absurd hi (Nat.not_lt_zero i), fun i _ => rfl⟩, Or.inl rfl, by rw [gf365]; decide, by rw [gf365]; decide, ?_⟩
  decide +kernel
theorem v_0 : VST 0 [] 0 X_0 0 X_0 0 H_0 none none := by
  have n0 : ∀ {P : Prop} (i : Nat), i < 0 → P := fun i hi => absurd hi (Nat.not_lt_zero i)
  exact ⟨by omega, ⟨by decide, fun c hc => by cases hc⟩, ⟨by omega, ⟨fun i hi => n0 i hi, ⟨fun i hi => n0 i hi, fun i hi => n0 i hi⟩, fun i hi => n0 i hi⟩, fun i hi => n0 i hi⟩, ⟨by omega, fun i hi => n0 i hi, fun i hi => n0 i hi, fun i hi => n0 i hi, fun i hi => n0 i hi, fun i hi => n0 i hi, fun i hi => n0 i hi, fun i hi => n0 i hi⟩, ⟨by omega, fun i hi => n0 i hi⟩, (fun k hk => by cases hk), (fun k hk => by cases hk)⟩
theorem xs_0 : xS 0 f_0 = X_0 := by
  funext j w
  unfold xS X_0 xC nm
  rw [if_neg (by omega), if_neg (by omega)]
theorem xm_0 : xM 0 f_0 = X_0 := by
  funext j w
  unfold xM X_0 xC nm
  rw [if_neg (by omega), if_neg (by omega)]
theorem ri_0 : RI (fun _ => 0) (fun _ _ => 0) 0 f_0 [] 0 X_0 0 X_0 0 H_0 f_0 none none := ⟨⟨rfl, rfl⟩, ⟨rfl, fun j hj => absurd hj (Nat.not_lt_zero j)⟩, ⟨rfl, xs_0⟩, ⟨rfl, xm_0, rfl, fun k hk => absurd hk (Nat.not_lt_zero k)⟩, fun _ _ => rfl, ⟨rfl, fun k hk => by cases hk⟩, rfl, fun k hk => by cases hk⟩
theorem inv_0 : INV G148_ 0 := by
  refine ⟨Nat.le_refl 0, ⟨⟨_, rw72⟩, _, rw73⟩, _, _, 0, f_0, [], 0, X_0, 0, X_0, 0, H_0, f_0, none, none, rh_0, ⟨?_, c2_0, ?_, ?_, ?_, ?_, ?_⟩, ri_0, v_0⟩
  · exact c1_0.hg hg_cls (fun p _ _ => by first | omega | (dsimp only; omega))
  · exact c3_0.hg hg_cls (fun p _ _ => by first | omega | (dsimp only; omega))
  · exact c4_0.hg hg_cls (fun p _ _ => by first | omega | (dsimp only; omega))
  · exact c5_0.hg hg_cls (by first | omega | (dsimp only; omega))
  · exact c6_0.hg hg_cls (by first | omega | (dsimp only; omega)) (fun p _ _ => by first | omega | (dsimp only; omega))
  · exact c7_0.hg hg_cls (fun p _ _ => by first | omega | (dsimp only; omega))
