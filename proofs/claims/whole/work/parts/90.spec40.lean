/-! the class reads statements -/
