/** SHEETS at their bounds: none, one and 24 numbers, of 8, 16 and 32 bits, and copies that lie over themselves. */
public final class SheetEdgesTest extends Edge {
  public static void main(String[] args) {
    missingAtFirst();
    madeAnew();
    lowestBits();
    firstAndLast();
    copyOverItself();
    copyBetween();
    copyNone();
    sheetsStay();
    close();
  }

  private static void missingAtFirst() {
    for (int s = 0; s < 4; s++) {
      StepWorld x = Edge.boxes(1);
      x.seam(0, 0);
      due("order", x.order(s), MISSING);
      due("end", x.end(1, s), MISSING);
      due("judge", x.judge(0, s), MISSING);
      due("write", x.write(s, 0, 0), MISSING);
      due("copy", x.copy(s, 0, s, 0, 0), MISSING);
      due("made", x.sheet(s, 8, 1), 1);
      due("order", x.order(s), 1);
      due("missing again", x.sheet(s, 0, 0), 0);
      due("order", x.order(s), MISSING);
      due("an empty one is not missing", x.sheet(s, 32, 0), 0);
      due("order", x.order(s), SIZE);
      due("end", x.end(1, s), SIZE);
      due("judge", x.judge(0, s), 0);
      due("write", x.write(s, 0, 0), BEYOND);
      due("copy", x.copy(s, 0, s, 0, 0), 0);
      for (int t = 0; t < 4; t++) {
        if (t != s) {
          due("the others are missing still", x.order(t), MISSING);
        }
      }
    }
  }

  /** What each number is, told by a SEAM that is always 0: how many are 0 ahead of the first that isn't. */
  private static StepWorld zero() {
    StepWorld x = Edge.boxes(1);
    x.seam(0, 0);
    return x;
  }

  private static void madeAnew() {
    int[] bits = {8, 16, 32};
    for (int b : bits) {
      StepWorld x = zero();
      x.sheet(0, b, 24);
      due("all 0", x.judge(0, 0), 24);
      for (int i = 0; i < 24; i++) {
        x.write(0, i, 1);
      }
      due("none is 0", x.judge(0, 0), 0);
      due("smaller", x.sheet(0, b, 3), 3);
      due("all 0", x.judge(0, 0), 3);
      due("larger again", x.sheet(0, b, 24), 24);
      due("all 0", x.judge(0, 0), 24);
      x.write(0, 23, 5);
      due("missing", x.sheet(0, 0, 24), 0);
      due("there again", x.sheet(0, b, 24), 24);
      due("all 0", x.judge(0, 0), 24);
      x.write(0, 0, 9);
      due("refused", x.sheet(0, b, 25), BEYOND);
      due("so it stays", x.judge(0, 0), 0);
      due("refused", x.sheet(0, b, -1), SIZE);
      due("so it stays", x.judge(0, 0), 0);
    }
  }

  private static void lowestBits() {
    int[] bits = {8, 16, 32};
    for (int b : bits) {
      StepWorld x = zero();
      x.sheet(0, b, 1);
      for (int bit = 0; bit < 32; bit++) {
        due("write", x.write(0, 0, 1 << bit), 1);
        due("bit " + bit + " of " + b, x.judge(0, 0), bit < b ? 0 : 1);
        due("write", x.write(0, 0, ~0 << bit), 1);
        due("from bit " + bit + " of " + b, x.judge(0, 0), bit < b ? 0 : 1);
      }
    }
    StepWorld x = Edge.boxes(2);
    x.sheet(0, 8, 2);
    x.write(0, 0, 257);
    due("an order by its lowest bits", x.order(0), 1);
    due("1 is first", x.at(0), 1);
    x.sheet(0, 16, 2);
    x.write(0, 0, 257);
    due("not by 16 bits", x.order(0), BEYOND);
    x.write(0, 0, 65536 + 1);
    due("an order by 16 bits", x.order(0), 1);
    due("machines by 16 bits", x.end(2, 0), 1);
    x.sheet(0, 32, 2);
    x.write(0, 0, 65536 + 1);
    due("not by 32 bits", x.order(0), BEYOND);
    due("no machine by 32 bits", x.end(2, 0), BEYOND);
  }

  private static void firstAndLast() {
    for (int n = 1; n <= 24; n++) {
      StepWorld x = zero();
      x.sheet(1, 8, n);
      due("the last", x.write(1, n - 1, 7), 1);
      due("is the last", x.judge(0, 1), n - 1);
      due("one behind", x.write(1, n, 7), BEYOND);
      due("one ahead", x.write(1, -1, 7), BEYOND);
      due("the first", x.write(1, 0, 7), 1);
      due("is the first", x.judge(0, 1), 0);
    }
  }

  /** Numbers of a sheet that goes 1, 2, 3, ..: told by a BOX that does so. */
  private static StepWorld upwards(int n) {
    StepWorld x = new StepWorld();
    x.whole(16);
    x.box(0, 0, 0);
    text(x, 0, "p=p+1");
    x.seam(0, 0);
    x.sheet(0, 8, n);
    for (int i = 0; i < n; i++) {
      x.write(0, i, i + 1);
    }
    return x;
  }

  /** Copies within one sheet, up and down, come out as all numbers were ahead of them. */
  private static void copyOverItself() {
    int n = 12;
    for (int from = 0; from <= n; from++) {
      for (int to = 0; to <= n; to++) {
        for (int many = 0; many <= n - Math.max(from, to); many++) {
          StepWorld x = upwards(n);
          due("upwards", x.judge(0, 0), n);
          due("copy", x.copy(0, from, 0, to, many), many);
          int[] want = new int[n];
          for (int i = 0; i < n; i++) {
            want[i] = i >= to && i < to + many ? i - to + from + 1 : i + 1;
          }
          asIs(x, want, "copy " + many + " from " + from + " to " + to);
        }
      }
    }
  }

  /** Each number of sheet 0, found by the HOUR from which on it is LAST. */
  private static void asIs(StepWorld x, int[] want, String what) {
    x.sheet(1, 8, 1);
    for (int i = 0; i < want.length; i++) {
      x.copy(0, i, 1, 0, 1);
      x.set(0, 100 * (want[i] - 1));
      due(what + ": number " + i, x.judge(0, 1), 1);
    }
  }

  private static void copyBetween() {
    StepWorld x = upwards(24);
    x.sheet(3, 8, 24);
    due("all", x.copy(0, 0, 3, 0, 24), 24);
    due("as they were", x.judge(0, 3), 15);
    x.sheet(3, 8, 3);
    due("three from the middle", x.copy(0, 4, 3, 0, 3), 3);
    x.set(0, 400);
    due("5, 6, 7", x.judge(0, 3), 3);
    due("one to the last place", x.copy(0, 0, 3, 2, 1), 1);
    due("5, 6, 1", x.judge(0, 3), 2);
    due("back into the first", x.copy(3, 0, 0, 22, 2), 2);
    x.set(0, 0);
    due("the first stay", x.judge(0, 0), 15);
    int[] bits = {8, 16, 32};
    for (int from : bits) {
      for (int to : bits) {
        StepWorld y = new StepWorld();
        y.sheet(0, from, 2);
        y.sheet(1, to, 2);
        due(from + " to " + to, y.copy(0, 0, 1, 0, 2), from == to ? 2 : KIND);
        due("none of " + from + " to " + to, y.copy(0, 0, 1, 0, 0), from == to ? 0 : KIND);
      }
    }
  }

  private static void copyNone() {
    StepWorld x = new StepWorld();
    x.sheet(0, 8, 3);
    x.sheet(1, 8, 0);
    due("none to an empty one", x.copy(0, 3, 1, 0, 0), 0);
    due("none from an empty one", x.copy(1, 0, 0, 3, 0), 0);
    due("one to an empty one", x.copy(0, 0, 1, 0, 1), BEYOND);
    due("one from an empty one", x.copy(1, 0, 0, 0, 1), BEYOND);
    due("none from behind the end", x.copy(0, 4, 1, 0, 0), BEYOND);
    due("none to behind the end", x.copy(0, 0, 1, 1, 0), BEYOND);
    due("none from ahead", x.copy(0, -1, 1, 0, 0), BEYOND);
    due("none to ahead", x.copy(0, 0, 1, -1, 0), BEYOND);
  }

  /** SHEETS are in no image and no HOUR. */
  private static void sheetsStay() {
    StepWorld x = zero();
    x.sheet(0, 8, 2);
    x.image();
    x.step(1);
    x.write(0, 0, 3);
    x.sheet(1, 16, 5);
    x.back(1);
    due("stays", x.judge(0, 0), 0);
    due("stays", x.judge(0, 1), 5);
    x.undo();
    due("stays", x.judge(0, 0), 0);
    due("stays", x.judge(0, 1), 5);
    x.tear();
    due("stays", x.judge(0, 1), 5);
  }
}
