/** All that is worked out is the rest by M, never below 0: at both ends, for each M. */
public final class WholeEdgesTest extends Edge {
  public static void main(String[] args) {
    for (int m = 2; m <= 16; m++) {
      lines(m);
      steps(m);
      products(m);
      restsBy(m);
      guesses(m);
      far(m);
      owes(m);
    }
    longLines();
    close();
  }

  private static StepWorld by(int m, int boxes) {
    StepWorld x = new StepWorld();
    x.whole(m);
    for (int i = 0; i < boxes; i++) {
      x.box(0, 0, 0);
    }
    return x;
  }

  /** Each letter's LINE at both ends. */
  private static void lines(int m) {
    String[] letters = {"p", "q", "u", "v"};
    int last = m - 1;
    for (int what = 0; what < 4; what++) {
      StepWorld x = by(m, 1);
      text(x, 0, letters[what] + "=p+1");
      due("up from the last", x.would(0, what, 100 * last, 0, 0), 0);
      due("up from the one before", x.would(0, what, 100 * last - 100, 0, 0), last);
      text(x, 0, letters[what] + "=q-1");
      due("down from 0", x.would(0, what, 0, 0, 0), last);
      due("down from 1", x.would(0, what, 1, 0, 0), 0);
      text(x, 0, letters[what] + "=a-b");
      due("0 less the last", x.would(0, what, 0, last, 0), 1 % m);
      due("the last less 0", x.would(0, what, 0, 100 * last, 0), last);
      text(x, 0, letters[what] + "=a+b");
      due("twice the last", x.would(0, what, 0, 101 * last, 0), (2 * last) % m);
      text(x, 0, letters[what] + "=99");
      due("99", x.would(0, what, 0, 0, 0), 99 % m);
      text(x, 0, letters[what] + "=0-99");
      due("0 less 99", x.would(0, what, 0, 0, 0), Math.floorMod(-99, m));
      text(x, 0, letters[what] + "=h");
      due("hour 0", x.would(0, what, 0, 0, 0), 0);
      due("hour M - 1", x.would(0, what, 0, 0, m - 1), m - 1);
      due("hour M", x.would(0, what, 0, 0, m), 0);
      due("hour 999", x.would(0, what, 0, 0, 999), 999 % m);
      text(x, 0, letters[what] + "=0-h");
      due("0 less hour 999", x.would(0, what, 0, 0, 999), Math.floorMod(-999, m));
      text(x, 0, letters[what] + "=" + m);
      due("M itself", x.would(0, what, 0, 0, 0), 0);
    }
  }

  /** p goes up through the last and down through 0, HOUR by HOUR; u and v are OUTS as they are then. */
  private static void steps(int m) {
    StepWorld x = by(m, 1);
    text(x, 0, "p=p+1;q=q-1;u=p+p;v=0-q");
    for (int i = 1; i <= 2 * m; i++) {
      x.step(1);
      due("up", x.of(0, 1), i % m);
      due("down", x.of(0, 2), Math.floorMod(-i, m));
      due("twice", x.of(0, 5), 2 * (i % m) % m);
      due("less", x.of(0, 6), i % m);
    }
  }

  private static void products(int m) {
    StepWorld x = by(m, 1);
    text(x, 0, "p=p*p;q=p*p*p;u=(p+p)*(p+p);v=p*p-q*q");
    for (int p = 0; p < m; p++) {
      due("squared", x.would(0, 0, 100 * p, 0, 0), p * p % m);
      due("cubed", x.would(0, 1, 100 * p, 0, 0), p * p * p % m);
      due("doubled and squared", x.would(0, 2, 100 * p, 0, 0), 4 * p * p % m);
      due("less the last, squared", x.would(0, 3, 100 * p + m - 1, 0, 0), Math.floorMod(p * p - 1, m));
    }
  }

  /** The rest by each number; by 0 it is 0. */
  private static void restsBy(int m) {
    for (int q = 0; q < m; q++) {
      StepWorld x = by(m, 1);
      text(x, 0, "p=p%q;q=p%(q-q);u=p%0;v=(p+q)%q");
      for (int p = 0; p < m; p++) {
        due(p + " % " + q, x.would(0, 0, 100 * p + q, 0, 0), q == 0 ? 0 : p % q);
        due(p + " % a sum of 0", x.would(0, 1, 100 * p + q, 0, 0), 0);
        due(p + " % 0", x.would(0, 2, 100 * p + q, 0, 0), 0);
        due("of a rest by M", x.would(0, 3, 100 * p + q, 0, 0), q == 0 ? 0 : (p + q) % m % q);
      }
    }
  }

  /** LAST, the one before and the one before that, at both ends, for each rule. */
  private static void guesses(int m) {
    int last = m - 1;
    int[][] rows = {{0, 0, 0}, {0, 0, last}, {0, last, 0}, {0, last, last}, {last, 0, 0}, {last, 0, last}, {last, last, 0},
      {last, last, last}, {1, 0, last}, {m / 2, last, 1}};
    for (int[] row : rows) {
      StepWorld x = withLast(m, row);
      for (int i = 0; i < 3; i++) {
        due("kept " + i, x.seamIs(0, 2 + i), row[i]);
      }
      int[] want = {row[0], Math.floorMod(2 * row[0] - row[1], m), Math.floorMod(3 * row[0] - 3 * row[1] + row[2], m)};
      for (int rule = 0; rule < 3; rule++) {
        x.guess(rule);
        due("guess by " + rule + " of " + row[0] + ", " + row[1] + ", " + row[2], x.guessed(0), want[rule]);
        StepWorld y = withLast(m, row);
        y.guess(rule);
        y.step(1);
        due("what the IN had", y.of(0, 3), want[rule]);
      }
    }
  }

  /** A SEAM whose LAST, the one before and the one before that are these. */
  private static StepWorld withLast(int m, int[] row) {
    StepWorld x = by(m, 1);
    x.seam(0, 0);
    for (int i = 2; i >= 0; i--) {
      x.set(0, 100 * row[i]);
      x.step(1);
    }
    return x;
  }

  /** FAR of each two numbers: the lesser of both rests. The IN has LAST, as its BOX gives it to itself. */
  private static void far(int m) {
    for (int from = 0; from < m; from++) {
      StepWorld x = by(m, 1);
      x.seam(0, 0);
      for (int to = 0; to < m; to++) {
        x.set(0, 100 * from);
        x.step(1);
        int owed = x.seamIs(0, 5);
        x.set(0, 100 * to);
        int want = Math.min(Math.floorMod(from - to, m), Math.floorMod(to - from, m));
        due("off, " + from + " to " + to + " by " + m, x.off(), want);
        x.step(1);
        due("far, " + from + " to " + to + " by " + m, x.seamIs(0, 5) - owed, want);
      }
    }
  }

  /** The farthest that a SEAM can be off in each of 999 HOURS; that is the most it ever OWES. */
  private static void owes(int m) {
    StepWorld x = by(m, 1);
    text(x, 0, m % 2 == 0 ? "p=p+" + m / 2 : "p=p+" + (m - 1) / 2);
    x.seam(0, 0);
    at(x, 999);
    due("owes in 999 hours by " + m, x.seamIs(0, 5), 999 * (m / 2));
    due("and 30 beside", x.beside(0, 30), 1029 * (m / 2));
    due("by a line just what was owed", x.beside(1, 30), 999 * (m / 2));
    due("of all", x.count(5), 999 * (m / 2));
  }

  /** As many factors and summands as a TAPE has room for. */
  private static void longLines() {
    for (int m = 2; m <= 16; m++) {
      StepWorld x = by(m, 1);
      due("26 factors", text(x, 0, "u=99" + "*99".repeat(25)), -1);
      int product = 1;
      for (int i = 0; i < 26; i++) {
        product = product * 99 % m;
      }
      due("99 to the 26th by " + m, x.of(0, 5), product);
      due("26 less", text(x, 0, "u=00" + "-99".repeat(25)), -1);
      due("less 25 times 99 by " + m, x.of(0, 5), Math.floorMod(-25 * 99, m));
      due("26 more", text(x, 0, "u=99" + "+99".repeat(25)), -1);
      due("26 times 99 by " + m, x.of(0, 5), 26 * 99 % m);
    }
  }
}
