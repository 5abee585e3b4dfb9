theorem jz_words : ∀ w ∈ vx_at0 "FirstComer" 199 "java/util/NoSuchElementException" ["java/lang/RuntimeException", "java/lang/Exception"], (goodWord w || jm_isN w) = true := by decide +kernel
