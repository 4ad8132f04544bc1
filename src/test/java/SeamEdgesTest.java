/** SEAMS, HANGS, RINGS and ANSWERS at their bounds: none, one, all; the first and the last. */
public final class SeamEdgesTest extends Edge {
  public static void main(String[] args) {
    newSeam();
    fourteen();
    oneAtMost();
    inTillASeam();
    lastThree();
    saying();
    guessAtFirst();
    hangsOnNoneOneTwo();
    ringOfAll();
    ringsApart();
    ringOfTheLast();
    answersNoneOneAll();
    firstAndLastAnswer();
    threeSeamsAndFour();
    solveByPlaces();
    searchesApart();
    otherInsAsTheyAre();
    close();
  }

  private static void newSeam() {
    for (int m = 2; m <= 16; m += 7) {
      StepWorld x = new StepWorld();
      x.whole(m);
      x.box(0, 101 * (m - 1), 0);
      x.box(0, 0, 0);
      x.step(3);
      due("seam", x.seam(1, 11), 0);
      int[] first = {1, 11, 0, 0, 0, 0, 0, m - 1};
      for (int what = 0; what < 8; what++) {
        due("at first " + what, x.seamIs(0, what), first[what]);
      }
    }
  }

  private static void fourteen() {
    StepWorld x = Edge.boxes(7);
    for (int i = 0; i < 14; i++) {
      due("seam " + i, x.seam(10 * (6 - i / 2) + i % 2, 10 * (i / 2) + 1 - i % 2), i);
      due("seams", x.count(1), i + 1);
    }
    for (int i = 0; i < 14; i++) {
      due("from", x.seamIs(i, 0), 10 * (6 - i / 2) + i % 2);
      due("to", x.seamIs(i, 1), 10 * (i / 2) + 1 - i % 2);
      due("no in is without one", x.seam(0, 10 * (i / 2) + i % 2), STATE);
      due("nor told", x.in(i / 2, i % 2, 0), STATE);
    }
    due("fourteen still", x.count(1), 14);
    StepWorld y = Edge.boxes(7);
    for (int i = 0; i < 14; i++) {
      due("all from one out", y.seam(60, 10 * (i / 2) + i % 2), i);
    }
    y.set(6, 500);
    y.step(2);
    for (int i = 0; i < 14; i++) {
      due("each has it", y.of(i / 2, 3 + i % 2), 5);
      due("each keeps it", y.seamIs(i, 2), 5);
    }
    due("six boxes ahead of it were off once, and it itself", y.count(5), 14 * 5);
  }

  private static void oneAtMost() {
    StepWorld x = Edge.boxes(2);
    due("to itself", x.seam(0, 0), 0);
    due("the same again", x.seam(0, 0), STATE);
    due("from another out", x.seam(1, 0), STATE);
    due("from another box", x.seam(10, 0), STATE);
    due("to the other in", x.seam(0, 1), 1);
    due("to that again", x.seam(11, 1), STATE);
    due("to another box", x.seam(0, 10), 2);
    due("three", x.count(1), 3);
  }

  /** An IN is 0 at first, then what in() told, till a SEAM's first TURN tells it. */
  private static void inTillASeam() {
    StepWorld x = Edge.boxes(2);
    x.set(0, 400);
    due("at first", x.of(1, 3), 0);
    x.in(1, 0, 9);
    x.seam(0, 10);
    due("as in() told", x.of(1, 3), 9);
    due("no more by in()", x.in(1, 0, 1), STATE);
    due("still", x.of(1, 3), 9);
    x.step(1);
    due("as the seam told", x.of(1, 3), 4);
    due("the other is 0 still", x.of(1, 4), 0);
    x.step(3);
    due("the other is 0 for ever", x.of(1, 4), 0);
  }

  private static void lastThree() {
    StepWorld x = Edge.boxes(1);
    text(x, 0, "p=p+1");
    x.seam(0, 0);
    int[][] rows = {{0, 0, 0}, {1, 0, 0}, {2, 1, 0}, {3, 2, 1}, {4, 3, 2}, {5, 4, 3}};
    for (int hour = 0; hour < rows.length; hour++) {
      for (int i = 0; i < 3; i++) {
        due("hour " + hour + ", kept " + i, x.seamIs(0, 2 + i), rows[hour][i]);
      }
      x.step(1);
    }
    x.back(5);
    for (int i = 0; i < 3; i++) {
      due("taken back, kept " + i, x.seamIs(0, 2 + i), rows[1][i]);
    }
  }

  /** Within the SAYING are low and high themselves; one less and one more LEAVE it. */
  private static void saying() {
    for (int low = 0; low < 10; low++) {
      for (int high = low; high < 10; high++) {
        for (int v = 0; v < 10; v++) {
          StepWorld x = Edge.boxes(2);
          x.set(0, 100 * v);
          x.seam(0, 11);
          x.say(0, low, high);
          x.step(1);
          boolean within = low <= v && v <= high;
          due(v + " in " + low + " to " + high, x.left(0), within ? NONE : 0);
          due(v + " in " + low + " to " + high, x.left(1), within ? NONE : 0);
        }
      }
    }
  }

  private static void guessAtFirst() {
    StepWorld x = Edge.boxes(1);
    x.set(0, 700);
    x.seam(0, 0);
    for (int rule = 0; rule < 3; rule++) {
      x.guess(rule);
      due("by nothing", x.guessed(0), 0);
    }
    x.step(1);
    int[] once = {7, 4, 1};
    for (int rule = 0; rule < 3; rule++) {
      x.guess(rule);
      due("by one hour and rule " + rule, x.guessed(0), once[rule]);
    }
  }

  private static void hangsOnNoneOneTwo() {
    StepWorld x = Edge.boxes(7);
    for (int i = 0; i < 7; i++) {
      due("none", x.hangs(i), 0);
      text(x, i, "u=a;v=b");
      due("without a seam", x.hangs(i), 0);
    }
    for (int i = 0; i < 7; i++) {
      x.seam(10 * i, 10 * (6 - i));
      due("one", x.hangs(6 - i), 1 << i);
    }
    for (int i = 0; i < 7; i++) {
      x.seam(61, 10 * i + 1);
      due("two, or the same twice", x.hangs(i), 1 << 6 - i | 64);
    }
    text(x, 6, "p=a+b;q=a*b;u=p;v=h+12");
    due("named by p and q alone", x.hangs(6), 0);
    text(x, 6, "u=b;u=p;v=b;v=q");
    due("named by lines that don't count", x.hangs(6), 0);
    text(x, 6, "u=p;u=0*a");
    due("named, though it counts for nothing", x.hangs(6), 1);
    text(x, 6, "u=p;v=((((b))))");
    due("named within (", x.hangs(6), 64);
  }

  private static void ringOfAll() {
    StepWorld x = Edge.boxes(7);
    for (int i = 0; i < 7; i++) {
      text(x, i, "v=a");
    }
    for (int i = 0; i < 6; i++) {
      x.seam(10 * i + 1, 10 * i + 10);
      for (int box = 0; box < 7; box++) {
        due("open yet", x.ring(box), 0);
        due("no answers", x.answers(box), NONE);
      }
    }
    x.seam(61, 0);
    for (int box = 0; box < 7; box++) {
      due("all", x.ring(box), 127);
      due("seven seams", x.answers(box), SIZE);
      due("seven seams", x.solve(box, 0), SIZE);
    }
    text(x, 3, "v=b");
    for (int box = 0; box < 7; box++) {
      due("cut", x.ring(box), 0);
    }
  }

  /** Two rings, one hanging on the other, and a box between, are apart. */
  private static void ringsApart() {
    StepWorld x = Edge.boxes(5);
    for (int i = 0; i < 5; i++) {
      text(x, i, "u=a+b");
    }
    x.seam(0, 10);
    x.seam(10, 0);
    x.seam(10, 20);
    x.seam(20, 30);
    x.seam(30, 40);
    x.seam(40, 31);
    int[] rings = {3, 3, 0, 24, 24};
    for (int box = 0; box < 5; box++) {
      due("ring of " + box, x.ring(box), rings[box]);
    }
    due("seams 0 and 1", x.answers(0), 10);
    due("no ring", x.answers(2), NONE);
    due("seam 3 leads into it and is not told", x.answers(3), 10);
    x.seam(40, 11);
    int[] joined = {31, 31, 31, 31, 31};
    for (int box = 0; box < 5; box++) {
      due("joined, ring of " + box, x.ring(box), joined[box]);
    }
    due("seven seams", x.answers(2), SIZE);
  }

  /** The last two of seven boxes, with no other seams than theirs. */
  private static void ringOfTheLast() {
    StepWorld x = Edge.boxes(7);
    text(x, 5, "u=a");
    text(x, 6, "v=b");
    x.seam(50, 61);
    x.seam(61, 50);
    due("hangs", x.hangs(5), 64);
    due("hangs", x.hangs(6), 32);
    due("ring", x.ring(5), 96);
    due("ring", x.ring(6), 96);
    for (int box = 0; box < 5; box++) {
      due("none", x.ring(box), 0);
    }
    due("answers", x.answers(6), 10);
  }

  private static void answersNoneOneAll() {
    for (int m = 2; m <= 16; m++) {
      StepWorld x = new StepWorld();
      x.whole(m);
      x.box(0, 0, 0);
      x.seam(0, 0);
      text(x, 0, "u=a+1");
      due("none", x.answers(0), 0);
      text(x, 0, "u=a*0+" + (m - 1));
      due("one, the last", x.answers(0), 1);
      due("the last", x.solve(0, 0), m - 1);
      text(x, 0, "u=a-a");
      due("one, the first", x.answers(0), 1);
      due("the first", x.solve(0, 0), 0);
      text(x, 0, "u=a");
      due("all", x.answers(0), m);
      x.seam(1, 1);
      text(x, 0, "u=a;v=b");
      due("all of two", x.answers(0), m * m);
      text(x, 0, "u=b;v=a");
      due("two alike", x.answers(0), m);
      text(x, 0, "u=b;v=a+1");
      due("two that can't be", x.answers(0), 0);
      text(x, 0, "u=0-a;v=b");
      due("a is less a: once or twice, by all b", x.answers(0), m % 2 == 0 ? 2 * m : m);
    }
  }

  /** The first as a row: seam 0 counts most, the last least. */
  private static void firstAndLastAnswer() {
    StepWorld x = new StepWorld();
    x.whole(16);
    x.box(0, 0, 0);
    x.box(0, 0, 0);
    x.seam(0, 10);
    x.seam(1, 11);
    x.seam(11, 1);
    // Seam 0 is u of 0 into a of 1, seam 1 is v of 0 into b of 1, seam 2 is v of 1 into b of 0.
    text(x, 0, "u=15;v=b");
    text(x, 1, "v=b*0+15");
    due("one, the last row of all", x.answers(0), 1);
    for (int i = 0; i < 3; i++) {
      due("its number " + i, x.solve(0, i), 15);
    }
    text(x, 0, "u=b;v=15-b");
    text(x, 1, "v=15-b");
    due("all b", x.answers(1), 16);
    due("seam 0 is least", x.solve(0, 0), 0);
    due("seam 1 is 15", x.solve(0, 1), 15);
    due("seam 2 is seam 0", x.solve(0, 2), 0);
    text(x, 0, "u=15-b;v=b");
    text(x, 1, "v=b");
    due("all b again", x.answers(1), 16);
    due("seam 0 is least again", x.solve(1, 0), 0);
    due("though seam 1 is most then", x.solve(1, 1), 15);
    due("and seam 2", x.solve(1, 2), 15);
    due("not so many", x.solve(1, 3), NONE);
  }

  private static void threeSeamsAndFour() {
    StepWorld x = Edge.boxes(2);
    text(x, 0, "u=a;v=b");
    x.seam(0, 0);
    due("one seam", x.answers(0), 10);
    x.seam(1, 1);
    due("two seams", x.answers(0), 100);
    due("no ring of 1", x.answers(1), NONE);
    StepWorld y = Edge.boxes(2);
    text(y, 0, "u=a;v=b");
    text(y, 1, "u=a");
    y.seam(0, 10);
    y.seam(10, 0);
    y.seam(1, 1);
    due("three seams", y.answers(0), 100);
    y.seam(0, 11);
    due("four, the last named by no line", y.answers(0), SIZE);
    due("of each box", y.answers(1), SIZE);
    due("to solve", y.solve(1, 2), SIZE);
  }

  /** The i-th SEAM is the i-th of those of THE RING, not of all. */
  private static void solveByPlaces() {
    StepWorld x = Edge.boxes(4);
    x.seam(0, 10);
    x.seam(0, 20);
    x.seam(30, 20 + 1);
    x.seam(20, 30);
    x.seam(31, 0);
    text(x, 2, "u=b+3");
    text(x, 3, "u=a*2");
    due("ring", x.ring(2), 12);
    due("one answer", x.answers(3), 1);
    due("seam 2: u of 3", x.solve(2, 0), 4);
    due("seam 3: u of 2", x.solve(2, 1), 7);
    due("of the other box too", x.solve(3, 1), 7);
    due("no third", x.solve(2, 2), NONE);
    due("no MAX-th", x.solve(2, Integer.MAX_VALUE), NONE);
    due("none before the first", x.solve(2, -1), BEYOND);
    due("none of MIN", x.solve(2, Integer.MIN_VALUE), BEYOND);
  }

  /** Each search begins anew, wherever the one before it ended, and in whichever RING that was. */
  private static void searchesApart() {
    StepWorld x = Edge.boxes(2);
    x.seam(0, 0);
    text(x, 0, "u=a*0+7");
    due("7", x.solve(0, 0), 7);
    text(x, 0, "u=q-a");
    x.set(0, 4);
    due("2 ahead of 7", x.solve(0, 0), 2);
    text(x, 0, "u=a*0+9");
    due("9", x.solve(0, 0), 9);
    text(x, 0, "u=a");
    due("0 ahead of all", x.solve(0, 0), 0);
    due("all", x.answers(0), 10);
    x.seam(10, 10);
    text(x, 1, "u=a*a");
    due("0, 1, 5 and 6 of the other ring", x.answers(1), 4);
    due("all of the first still", x.answers(0), 10);
  }

  /** An IN that is not told by THE RING is as it is, not as its SEAM would tell it. */
  private static void otherInsAsTheyAre() {
    StepWorld x = Edge.boxes(2);
    x.set(0, 300);
    x.seam(0, 11);
    x.seam(10, 10);
    text(x, 1, "u=a+b");
    due("b is 0 yet", x.answers(1), 10);
    due("b is 0 yet", x.solve(1, 0), 0);
    x.step(1);
    due("b is 3 now", x.answers(1), 0);
    x.set(0, 0);
    due("b is 3 still", x.answers(1), 0);
    due("b is 3 still", x.solve(1, 0), NONE);
    StepWorld y = Edge.boxes(2);
    y.seam(0, 0);
    text(y, 0, "u=a*2+b");
    for (int b = 0; b < 10; b++) {
      y.in(0, 1, b);
      due("a is less b", y.solve(0, 0), (10 - b) % 10);
    }
  }
}
