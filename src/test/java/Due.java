/** What each test builds on: it counts the calls whose answer is not the one that is due. */
class Due {
  static final int BEYOND = -1000001;
  static final int FULL = -1000002;
  static final int KIND = -1000003;
  static final int NONE = -1000004;
  static final int STATE = -1000005;
  static final int MISSING = -1000006;
  static final int SIZE = -1000007;

  private static int asked = 0;
  private static int wrong = 0;

  static void due(String what, long got, long want) {
    asked++;
    if (got != want) {
      wrong++;
      System.out.println(what + " answered " + got + ", due is " + want);
    }
  }

  /** Ends the test: with exit code 1 if an answer was wrong. */
  static void close() {
    System.out.println(asked + " answers asked, " + wrong + " wrong");
    if (wrong != 0 || asked == 0) {
      System.exit(1);
    }
  }

  /** Feeds a text, by as many bytes a call as may be: what the last call answered. */
  static int feed(StepWorld x, String text) {
    int answer = 0;
    for (int i = 0; i < text.length(); i += 4) {
      int n = Math.min(4, text.length() - i);
      int bytes = 0;
      for (int k = 0; k < n; k++) {
        bytes = bytes << 8 | text.charAt(i + k) & 255;
      }
      answer = x.feed(bytes, n);
    }
    return answer;
  }

  static int text(StepWorld x, int box, String text) {
    feed(x, text);
    return x.text(box);
  }

  static int change(StepWorld x, String text, int box, int n) {
    feed(x, text);
    return x.change(box, n);
  }

  static int drift(StepWorld x, String text, int box, int n) {
    feed(x, text);
    return x.drift(box, n);
  }

  /** A sheet of 8 bits with these numbers. */
  static void sheet(StepWorld x, int s, int... numbers) {
    x.sheet(s, 8, numbers.length);
    for (int i = 0; i < numbers.length; i++) {
      x.write(s, i, numbers[i]);
    }
  }
}
