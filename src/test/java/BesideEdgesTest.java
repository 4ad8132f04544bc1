/** What is tried beside at its bounds: the first and the last of n HOURS, the least SEAM, records of none and of 24. */
public final class BesideEdgesTest extends Edge {
  public static void main(String[] args) {
    changeAtTheEnds();
    driftAtTheEnds();
    changeOfEachBox();
    tapeStaysOrNot();
    changeKeepsHours();
    judgeAtTheEnds();
    judgeNumbers();
    besideRules();
    besideWithEvents();
    machinesWait();
    machinesByRows();
    layingsApart();
    close();
  }

  /** A BOX that gives itself p, which is changed in one HOUR alone: 30 HOURS from the open one, the last among them. */
  private static StepWorld still(int hour) {
    StepWorld x = new StepWorld();
    x.whole(16);
    x.box(0, 0, 0);
    x.seam(0, 0);
    return at(x, hour);
  }

  private static void changeAtTheEnds() {
    for (int wait = 0; wait <= 31; wait++) {
      StepWorld x = still(20);
      // p is 0 till an event; then the text at its side doubles it.
      x.event(20 + wait, 0, 1);
      for (int n = 1; n <= 30; n++) {
        due("event in " + wait + " of " + n, change(x, "p=p*2", 0, n), wait < n ? 20 + wait : NONE);
      }
      due("drift in " + wait, drift(x, "p=p*2", 0, 30), wait < 30 ? 0 : NONE);
    }
  }

  private static void driftAtTheEnds() {
    StepWorld x = full();
    due("the first seam", drift(x, "u=1;v=1", 0, 1), 0);
    due("the last seam alone", drift(x, "v=1", 6, 1), 13);
    due("its other out", drift(x, "u=1", 6, 1), 6);
    due("both: the least", drift(x, "u=1;v=1", 6, 1), 6);
    due("its hour", change(x, "u=1;v=1", 6, 1), 0);
    due("no out of it is another", drift(x, "u=p;v=q", 6, 30), NONE);
    x.step(3);
    due("its own hour", change(x, "v=1", 6, 1), 3);
    // Only at the end of the HOUR is LAST another one; a seam back and forth within it counts for nothing.
    due("p alone", change(x, "p=1;u=0", 6, 30), NONE);
  }

  private static void changeOfEachBox() {
    for (int box = 0; box < 7; box++) {
      StepWorld x = full();
      due("box " + box, drift(x, "u=7", box, 1), box);
      due("its text stays", x.of(box, 7), 0);
      due("its out stays", x.of(box, 5), 0);
      due("and with v", drift(x, "v=7", box, 1), 7 + box);
    }
    StepWorld x = Edge.boxes(1);
    due("no seams: none", change(x, "u=1", 0, 30), NONE);
    due("no seams: none", drift(x, "u=1", 0, 30), NONE);
  }

  private static void tapeStaysOrNot() {
    StepWorld x = Edge.boxes(1);
    x.seam(0, 0);
    feed(x, "u=1");
    int[] boxes = {-1, 1, Integer.MIN_VALUE, Integer.MAX_VALUE};
    for (int box : boxes) {
      due("no box", x.change(box, 1), BEYOND);
      due("no box", x.drift(box, 1), BEYOND);
      due("stays", x.count(6), 3);
    }
    int[] numbers = {-1, 0, 31, Integer.MIN_VALUE, Integer.MAX_VALUE};
    for (int n : numbers) {
      due("no n", x.change(0, n), BEYOND);
      due("no n", x.drift(0, n), BEYOND);
      due("stays", x.count(6), 3);
    }
    due("is read", x.change(0, 1), 0);
    due("is empty", x.count(6), 0);
    due("an empty one is no text", x.change(0, 1), KIND);
    due("an empty one is no text", x.drift(0, 1), KIND);
    due("is read", drift(x, "u=1", 0, 1), 0);
    due("is empty", x.count(6), 0);
    due("no text", drift(x, "u=1 ", 0, 1), KIND);
    due("is empty", x.count(6), 0);
    due("no text", change(x, "u=1;", 0, 1), KIND);
    due("is empty", x.count(6), 0);
    due("none", change(x, "u=p", 0, 1), NONE);
    due("is empty", x.count(6), 0);
    due("none", drift(x, "u=p", 0, 1), NONE);
    due("is empty", x.count(6), 0);
    String eighty = "u=10" + "+1".repeat(38);
    due("80 bytes", change(x, eighty, 0, 1), 0);
    due("is empty", x.wipe(), 0);
    due("findings are told", x.status(2), 4);
    due("findings are told", x.status(3), 2);
    due("findings are told", x.status(0), 18);
  }

  /** Nothing changes: not the HOURS that are kept, nor the image. */
  private static void changeKeepsHours() {
    StepWorld x = Edge.boxes(1);
    text(x, 0, "p=p+1");
    x.seam(0, 0);
    x.step(2);
    x.image();
    x.step(5);
    change(x, "p=p+2", 0, 30);
    drift(x, "p=p+2", 0, 30);
    sheet(x, 0, 8, 9, 0, 1, 2, 3, 4, 5, 6, 7);
    due("judged", x.judge(0, 0), 10);
    x.beside(2, 30);
    x.off();
    x.best(-1);
    due("kept", x.count(7), 6);
    due("back", x.back(6), 1);
    due("p", x.of(0, 1), 1);
    due("undo", x.undo(), 2);
    due("p", x.of(0, 1), 2);
  }

  private static void judgeAtTheEnds() {
    for (int n = 0; n <= 24; n++) {
      StepWorld x = Edge.boxes(1);
      text(x, 0, "p=p+1");
      x.seam(0, 0);
      x.step(3);
      x.sheet(0, 8, n);
      for (int i = 0; i < n; i++) {
        x.write(0, i, (4 + i) % 10);
      }
      due("all of " + n, x.judge(0, 0), n);
      for (int i = n - 1; i >= 0; i--) {
        x.write(0, i, (5 + i) % 10);
        due("the first that isn't is " + i, x.judge(0, 0), i);
      }
    }
  }

  /** A number above M - 1 or below 0 is never as it would be, though its rest by M be. */
  private static void judgeNumbers() {
    int[] wrong = {13, -7, 256 + 3, 65536 + 3, Integer.MIN_VALUE, Integer.MAX_VALUE, 4, 2};
    for (int v : wrong) {
      StepWorld x = Edge.boxes(1);
      x.set(0, 300);
      x.seam(0, 0);
      x.sheet(0, 32, 2);
      x.write(0, 0, 3);
      x.write(0, 1, v);
      due("32 bits: " + v, x.judge(0, 0), 1);
      x.write(0, 1, 3);
      due("3 and 3", x.judge(0, 0), 2);
      x.sheet(0, 16, 1);
      x.write(0, 0, v);
      due("16 bits: " + v, x.judge(0, 0), (v & 65535) == 3 ? 1 : 0);
      x.sheet(0, 8, 1);
      x.write(0, 0, v);
      due("8 bits: " + v, x.judge(0, 0), (v & 255) == 3 ? 1 : 0);
    }
  }

  private static void besideRules() {
    for (int rule = 0; rule < 3; rule++) {
      for (int other = 0; other < 3; other++) {
        StepWorld x = guessing(other);
        StepWorld y = guessing(other);
        y.guess(rule);
        for (int n = 0; n <= 30; n++) {
          due("rule " + rule + " behind " + n, x.beside(rule, n), y.count(5));
          y.step(1);
        }
        due("the rule stays", x.guess(0), other);
        due("the hour stays", x.count(3), 4);
      }
    }
    due("no seams", Edge.boxes(3).beside(2, 30), 0);
    due("no boxes", new StepWorld().beside(0, 0), 0);
  }

  private static StepWorld guessing(int rule) {
    StepWorld x = Edge.boxes(2);
    text(x, 0, "p=p*p+1;q=q+p");
    text(x, 1, "q=q+3");
    x.seam(1, 0);
    x.seam(11, 1);
    x.guess(rule);
    x.step(4);
    return x;
  }

  /** EVENTS of each BOX happen beside as in the world itself; so do TURNS by THE ORDER. */
  private static void besideWithEvents() {
    StepWorld x = Edge.boxes(3);
    x.seam(20, 0);
    x.seam(10, 1);
    x.event(1, 2, 4);
    x.event(2, 1, 3);
    sheet(x, 0, 1, 0, 2);
    x.order(0);
    due("hour 0", x.beside(0, 1), 0);
    due("hour 1: 4", x.beside(0, 2), 4);
    due("hour 2: box 1 had its turn", x.beside(0, 3), 4);
    sheet(x, 1, 0, 4, 4);
    due("judged", x.judge(0, 1), 3);
    sheet(x, 1, 0, 0, 3);
    due("judged", x.judge(1, 1), 3);
    due("seen by change", change(x, "u=p*p", 2, 30), 1);
    due("seen by drift", drift(x, "u=p*p", 2, 30), 0);
    due("seen by change", change(x, "u=p*p", 1, 30), 2);
    due("seen by drift", drift(x, "u=p*p", 1, 30), 1);
    x.step(1);
    due("off by 4", x.off(), 4);
    due("best ahead", x.best(-1), 0);
    due("2 ahead of 0", 100 * x.best(0) + 10 * x.best(1) + x.best(2), 120);
  }

  /** A BOX waits for those ahead of it in THE ORDER alone, from which a SEAM leads to it, by a or by b. */
  private static void machinesWait() {
    for (int door = 0; door < 2; door++) {
      StepWorld x = Edge.boxes(3);
      x.time(0, 9);
      x.time(1, 1);
      x.time(2, 5);
      sheet(x, 0, 0, 1, 2);
      due("apart", x.end(3, 0), 9);
      x.seam(1, 20 + door);
      due("2 waits for 0", x.end(3, 0), 14);
      due("laid so too", x.lay(3, -1), 14);
      x.seam(20, door);
      due("0 waits for none behind it", x.end(3, 0), 14);
      sheet(x, 1, 2, 1, 0);
      x.order(1);
      due("now 0 waits for 2", x.end(3, 0), 14);
      sheet(x, 1, 1, 2, 0);
      x.order(1);
      x.seam(10, 11);
      due("none waits for itself", x.end(3, 0), 14);
      sheet(x, 0, 0, 0, 0);
      due("one machine waits for none", x.end(1, 0), 15);
    }
    StepWorld x = Edge.boxes(3);
    x.seam(0, 20);
    x.seam(10, 21);
    x.time(0, 3);
    x.time(1, 7);
    sheet(x, 0, 0, 1, 2);
    due("for the later of two", x.end(3, 0), 8);
    x.time(0, 9);
    due("for the later of two", x.end(3, 0), 10);
  }

  /** Of several the first as a row of MACHINES by BOXES. */
  private static void machinesByRows() {
    StepWorld x = Edge.boxes(7);
    int[] row = {0, 0, 0, 1, 1, 1, 2};
    for (int box = 0; box < 7; box++) {
      due("seven on three", x.lay(3, box), row[box]);
    }
    int[] two = {0, 0, 0, 0, 1, 1, 1};
    for (int box = 0; box < 7; box++) {
      due("seven on two", x.lay(2, box), two[box]);
      due("seven on one", x.lay(1, box), 0);
    }
    x.time(6, 9);
    due("nine", x.lay(3, -1), 9);
    int[] nine = {0, 0, 0, 0, 0, 0, 1};
    for (int box = 0; box < 7; box++) {
      due("six beside nine", x.lay(3, box), nine[box]);
    }
    StepWorld y = Edge.boxes(1);
    due("one", y.lay(3, -1), 1);
    due("one", y.lay(3, 0), 0);
    due("no second", y.lay(3, 1), BEYOND);
  }

  /** THE LAYING is the first row whatever was laid before; a SEAM that is taken back is waited for no more. */
  private static void layingsApart() {
    StepWorld x = Edge.boxes(3);
    x.time(0, 3);
    x.time(1, 2);
    x.time(2, 5);
    sheet(x, 0, 1, 1, 0);
    due("as good the other way round", x.end(2, 0), 5);
    int[] row = {0, 0, 1};
    for (int box = 0; box < 3; box++) {
      due("the first as a row", x.lay(2, box), row[box]);
    }
    sheet(x, 0, 2, 2, 2);
    due("on the third", x.end(3, 0), 10);
    due("the first as a row", x.lay(2, 0), 0);
    x.image();
    x.step(1);
    x.seam(0, 20);
    due("2 waits for 0", x.lay(2, -1), 8);
    sheet(x, 0, 0, 0, 1);
    due("2 waits for 0", x.end(2, 0), 8);
    due("undo", x.undo(), 0);
    due("2 waits for none", x.lay(2, -1), 5);
    due("2 waits for none", x.end(2, 0), 5);
    x.step(1);
    x.seam(0, 21);
    due("2 waits for 0", x.end(2, 0), 8);
    due("back", x.back(1), 0);
    due("2 waits for none", x.end(2, 0), 5);
  }
}
