/** Counts the answers that aren't as due, and ends a test with exit code 1 if there was one. */
final class Due {
  static final int LOW = -1000000000;
  static final int BEYOND = LOW - 1;
  static final int NONE = LOW - 2;
  static final int STATE = LOW - 3;
  static final int FULL = LOW - 4;
  static final int KIND = LOW - 5;

  private final String name;
  private int asked = 0;
  private int wrong = 0;

  Due(String name) {
    this.name = name;
  }

  void is(String call, long got, long want) {
    asked++;
    if (got != want) {
      wrong++;
      System.out.println(name + ": " + call + " answered " + got + ", due is " + want);
    }
  }

  void end() {
    System.out.println(name + ": " + asked + " answers, " + wrong + " not as due");
    if (wrong != 0) {
      System.exit(1);
    }
  }

  /** Puts a whole text on an object's tape. */
  static void feed(MoonRooms x, String text) {
    for (int i = 0; i < text.length(); i += 8) {
      int n = Math.min(8, text.length() - i);
      long word = 0;
      for (int j = n - 1; j >= 0; j--) {
        word = word << 8 | text.charAt(i + j) & 255;
      }
      x.feed(word, n);
    }
  }

  static int text(MoonRooms x, int use, String text) {
    feed(x, text);
    return x.text(use);
  }

  static void sheet(MoonRooms x, int sheet, int bits, int... numbers) {
    x.sheet(sheet, bits, numbers.length);
    for (int i = 0; i < numbers.length; i++) {
      x.put(sheet, i, numbers[i]);
    }
  }
}
