/** What all tests share: counting answers that are not as due, and telling fields by texts. */
final class Due {
  private final String test;
  private int asked = 0;
  private int wrong = 0;

  Due(String test) {
    this.test = test;
  }

  void due(String call, long got, long want) {
    asked++;
    if (got != want) {
      wrong++;
      System.out.println(test + ": " + call + " answered " + got + ", due is " + want);
    }
  }

  void fail(String what) {
    asked++;
    wrong++;
    System.out.println(test + ": " + what);
  }

  /** Ends the test, with exit code 1 if an answer was wrong or nothing was asked. */
  void end() {
    System.out.println(test + ": " + asked + " answers, " + wrong + " wrong");
    if (wrong != 0 || asked == 0) {
      System.exit(1);
    }
  }

  /** THE TEXT becomes this one; its signs are bytes. */
  static void text(FieldsByDots x, String text) {
    x.wipe();
    for (int i = 0; i < text.length(); i++) {
      x.write(1, text.charAt(i));
    }
  }

  /** A new object whose fields 0, 1, .. are told by these texts ("" leaves one empty). */
  static FieldsByDots with(String... texts) {
    FieldsByDots x = new FieldsByDots();
    for (int i = 0; i < texts.length; i++) {
      text(x, texts[i]);
      if (!texts[i].isEmpty() && x.field(i) != texts[i].length() / 2) {
        throw new IllegalStateException("no field: " + texts[i]);
      }
    }
    x.wipe();
    return x;
  }

  /** The corners of a field as a text. */
  static String told(FieldsByDots x, int field) {
    StringBuilder all = new StringBuilder();
    for (int i = 0; x.corner(field, i, 0) >= 0; i++) {
      all.append(Character.forDigit(x.corner(field, i, 0), 16));
      all.append(Character.forDigit(x.corner(field, i, 1), 16));
    }
    return all.toString();
  }

  /** The corners of a field are as told by the text. */
  void dueTold(String when, FieldsByDots x, int field, String want) {
    asked++;
    String got = told(x, field);
    if (!got.equals(want)) {
      wrong++;
      System.out.println(test + ": " + when + ": field " + field + " is " + got
          + ", due is " + want);
    }
  }
}
