import java.util.function.Supplier;
import java.util.stream.IntStream;

/** For each number that a call takes: the last that is taken and the first that is not, on either side. */
public final class BoundsTest extends Edge {
  private static final Supplier<StepWorld> RICH = Edge::rich;

  public static void main(String[] args) {
    whole();
    kindsAndBoxes();
    numbersByTheWhole();
    pairs();
    ends();
    texts();
    seams();
    orders();
    hours();
    eventHours();
    machines();
    besides();
    sheets();
    numbersOfSheets();
    countAndStatus();
    close();
  }

  private static void whole() {
    bounds("whole", Edge::fresh, (x, m) -> x.whole(m), 2, 16);
    for (int m = 2; m <= 16; m++) {
      StepWorld x = new StepWorld();
      due("whole was", x.whole(m), 10);
      due("whole is", x.count(8), m);
      due("whole again", x.whole(10), m);
    }
  }

  private static void kindsAndBoxes() {
    bounds("box kind", Edge::fresh, (x, v) -> x.box(v, 0, 0), 0, 5);
    bounds("as kind", RICH, (x, v) -> x.as(1, v), 0, 5);
    bounds("of what", RICH, (x, v) -> x.of(0, v), 0, 9);
    bounds("in door", RICH, (x, v) -> x.in(2, v, 0), 0, 1);
    bounds("time", RICH, (x, v) -> x.time(0, v), 1, 9);
    bounds("would what", RICH, (x, v) -> x.would(0, v, 0, 0, 0), 0, 3);
    bounds("would hour", () -> Edge.boxes(1), (x, v) -> x.would(0, 0, 0, 0, v), 0, 999);
    for (int n = 0; n <= 7; n++) {
      boxNumbers(n);
    }
    StepWorld x = new StepWorld();
    for (int i = 0; i < 7; i++) {
      due("box " + i, x.box(i % 6, 0, 0), i);
    }
    due("the eighth", x.box(0, 0, 0), FULL);
    due("seven", x.count(0), 7);
  }

  /** Each call that takes a BOX, with n of them: 0 to n - 1 are taken; with none, none is. */
  private static void boxNumbers(int n) {
    Supplier<StepWorld> world = () -> Edge.boxes(n);
    String of = " of " + n;
    bounds("as box" + of, world, (x, v) -> x.as(v, 0), 0, n - 1);
    bounds("of box" + of, world, (x, v) -> x.of(v, 0), 0, n - 1);
    bounds("set box" + of, world, (x, v) -> x.set(v, 0), 0, n - 1);
    bounds("in box" + of, world, (x, v) -> x.in(v, 0, 0), 0, n - 1);
    bounds("time box" + of, world, (x, v) -> x.time(v, 1), 0, n - 1);
    bounds("text box" + of, world, (x, v) -> x.text(v), 0, n - 1);
    bounds("would box" + of, world, (x, v) -> x.would(v, 0, 0, 0, 0), 0, n - 1);
    bounds("hangs box" + of, world, (x, v) -> x.hangs(v), 0, n - 1);
    bounds("ring box" + of, world, (x, v) -> x.ring(v), 0, n - 1);
    bounds("answers box" + of, world, (x, v) -> x.answers(v), 0, n - 1);
    bounds("solve box" + of, world, (x, v) -> x.solve(v, 0), 0, n - 1);
    bounds("at place" + of, world, (x, v) -> x.at(v), 0, n - 1);
    bounds("event box" + of, world, (x, v) -> x.event(0, v, 0), 0, n - 1);
    bounds("lay box" + of, world, (x, v) -> x.lay(2, v), -1, n - 1);
    bounds("change box" + of, world, (x, v) -> x.change(v, 1), 0, n - 1);
    bounds("drift box" + of, world, (x, v) -> x.drift(v, 1), 0, n - 1);
    bounds("best place" + of, world, (x, v) -> x.best(v), -1, n - 1);
    int want = n == 0 ? NONE : n > 5 ? SIZE : 0;
    due("best" + of, world.get().best(-1), want);
    if (n > 0) {
      due("best place" + of, world.get().best(n - 1), n > 5 ? SIZE : n - 1);
    }
  }

  private static StepWorld by(int m) {
    StepWorld x = new StepWorld();
    x.whole(m);
    x.box(2, 0, 0);
    x.seam(0, 1);
    return x;
  }

  /** Numbers of BOXES and SEAMS are 0 to M - 1, for each M. */
  private static void numbersByTheWhole() {
    for (int m = 2; m <= 16; m++) {
      int whole = m;
      Supplier<StepWorld> world = () -> by(whole);
      bounds("jump by " + m, world, (x, v) -> x.box(2, 0, v), 0, m - 1);
      bounds("jump of a box that has none by " + m, world, (x, v) -> x.box(0, 0, v), 0, m - 1);
      bounds("in by " + m, world, (x, v) -> x.in(0, 0, v), 0, m - 1);
      bounds("low by " + m, world, (x, v) -> x.say(0, v, whole - 1), 0, m - 1);
      bounds("high by " + m, world, (x, v) -> x.say(0, 0, v), 0, m - 1);
      bounds("event by " + m, world, (x, v) -> x.event(0, 0, v), 0, m - 1);
      StepWorld x = world.get();
      due("low at first", x.seamIs(0, 6), 0);
      due("high at first", x.seamIs(0, 7), m - 1);
      due("low is high", x.say(0, m - 1, m - 1), 1);
      due("low is high is 0", x.say(0, 0, 0), 1);
      due("low above high by 1", x.say(0, m - 1, m - 2), BEYOND);
      due("the last in", x.in(0, 0, m - 1), 0);
      due("is a", x.of(0, 3), m - 1);
      due("the last jump", x.box(2, 0, m - 1), 1);
      due("is it", x.of(1, 9), m - 1);
    }
  }

  /** 100 * p + q and 100 * a + b are taken if both are numbers, for each M. */
  private static void pairs() {
    int[] near = IntStream.rangeClosed(-250, 1750).toArray();
    int[] far = {Integer.MIN_VALUE, Integer.MIN_VALUE + 1, -1600, -1000, 2147483600, Integer.MAX_VALUE};
    for (int m = 2; m <= 16; m++) {
      for (int[] numbers : new int[][] {near, far}) {
        pairsOf("set by " + m, numbers, m, 500, (x, v) -> x.set(0, v));
        pairsOf("would states by " + m, numbers, m, 500, (x, v) -> x.would(0, 0, v, 0, 0));
        pairsOf("would ins by " + m, numbers, m, 500, (x, v) -> x.would(0, 0, 0, v, 0));
        pairsOf("box by " + m, numbers, m, 1, (x, v) -> x.box(0, v, 0));
      }
    }
    StepWorld x = by(16);
    due("the last of all", x.box(0, 1515, 15), 1);
    due("p", x.of(1, 1), 15);
    due("q", x.of(1, 2), 15);
    due("set from the last", x.set(1, 1500), 1515);
    due("set from p alone", x.set(1, 15), 1500);
    due("set from q alone", x.set(1, 0), 15);
    text(x, 1, "u=a*16+b;v=a;p=b");
    due("a of the last ins", x.would(1, 3, 0, 1500, 0), 15);
    due("b of the last ins", x.would(1, 0, 0, 15, 0), 15);
    due("a and b apart", x.would(1, 3, 0, 1207, 0), 12);
    due("b and a apart", x.would(1, 0, 0, 1207, 0), 7);
  }

  /** Which of the numbers are taken; each world is asked so often, as it has 512 calls at most. */
  private static void pairsOf(String what, int[] numbers, int m, int often, CallBy call) {
    StepWorld x = by(m);
    int calls = 0;
    for (int v : numbers) {
      if (calls % often == 0) {
        x = by(m);
      }
      calls++;
      boolean taken = v >= 0 && v / 100 < m && v % 100 < m;
      due(what + ": " + v, call.on(x, v) == BEYOND ? 0 : 1, taken ? 1 : 0);
    }
  }

  /** 10 * BOX + OUT and 10 * BOX + IN, with 1, 3 and 7 BOXES. */
  private static void ends() {
    int[] counts = {1, 3, 7};
    for (int n : counts) {
      int[] numbers = IntStream.rangeClosed(-40, 90).toArray();
      for (int v : numbers) {
        boolean taken = v >= 0 && v / 10 < n && v % 10 < 2;
        due("from " + v + " of " + n, Edge.boxes(n).seam(v, 0), taken ? 0 : BEYOND);
        due("to " + v + " of " + n, Edge.boxes(n).seam(0, v), taken ? 0 : BEYOND);
        StepWorld x = Edge.boxes(n);
        if (x.seam(v, 10 * (n - 1) + 1) == 0) {
          due("is from", x.seamIs(0, 0), v);
          due("is to", x.seamIs(0, 1), 10 * (n - 1) + 1);
          due("has one", x.in(n - 1, 1, 0), STATE);
          due("the other has none", x.in(n - 1, 0, 0), 0);
        }
      }
      due("from MIN", Edge.boxes(n).seam(Integer.MIN_VALUE, 0), BEYOND);
      due("from MAX", Edge.boxes(n).seam(Integer.MAX_VALUE, 0), BEYOND);
      due("to MIN", Edge.boxes(n).seam(0, Integer.MIN_VALUE), BEYOND);
      due("to MAX", Edge.boxes(n).seam(0, Integer.MAX_VALUE), BEYOND);
    }
    due("without boxes", new StepWorld().seam(0, 0), BEYOND);
  }

  private static void texts() {
    bounds("feed n", Edge::fresh, (x, v) -> x.feed(0, v), 1, 4);
    for (int had = 70; had <= 80; had++) {
      for (int n = 1; n <= 4; n++) {
        StepWorld x = new StepWorld();
        feed(x, " ".repeat(had));
        due("had", x.count(6), had);
        boolean fits = had + n <= 80;
        due(n + " behind " + had, x.feed(0, n), fits ? had + n : FULL);
        due(n + " behind " + had + ", has", x.count(6), fits ? had + n : had);
      }
    }
  }

  private static void seams() {
    for (int n = 0; n <= 14; n++) {
      int seams = n;
      Supplier<StepWorld> world = () -> seamsOf(seams);
      String of = " of " + n;
      due("seams", world.get().count(1), n);
      bounds("seamIs seam" + of, world, (x, v) -> x.seamIs(v, 0), 0, n - 1);
      bounds("say seam" + of, world, (x, v) -> x.say(v, 0, 1), 0, n - 1);
      bounds("guessed seam" + of, world, (x, v) -> x.guessed(v), 0, n - 1);
      bounds("judge seam" + of, world, (x, v) -> x.judge(v, 0), 0, n - 1);
    }
    bounds("seamIs what", RICH, (x, v) -> x.seamIs(0, v), 0, 7);
    bounds("guess", RICH, (x, v) -> x.guess(v), 0, 2);
    bounds("solve i of 1", BoundsTest::ringOfOne, (x, v) -> x.solve(0, v), 0, 0, BEYOND, NONE);
    bounds("solve i of 3", BoundsTest::ringOfThree, (x, v) -> x.solve(0, v), 0, 2, BEYOND, NONE);
  }

  private static StepWorld seamsOf(int n) {
    StepWorld x = Edge.boxes(7);
    for (int to = 0; to < n; to++) {
      x.seam(0, 10 * (to / 2) + to % 2);
    }
    return x;
  }

  private static StepWorld ringOfOne() {
    StepWorld x = Edge.boxes(1);
    text(x, 0, "u=a");
    x.seam(0, 0);
    return x;
  }

  private static StepWorld ringOfThree() {
    StepWorld x = Edge.boxes(3);
    for (int i = 0; i < 3; i++) {
      text(x, i, "u=a");
      x.seam(10 * i, 10 * ((i + 1) % 3));
    }
    return x;
  }

  private static void orders() {
    bounds("order sheet", Edge::fresh, (x, v) -> x.order(v), 0, 3);
    // A number that is a BOX by its lowest bits alone is none.
    int[] numbers = {-1, 3, 32, 33, 34, 64, 1 << 30, Integer.MAX_VALUE, Integer.MIN_VALUE, -31, -32, 256, 65537};
    for (int v : numbers) {
      for (int place = 0; place < 3; place++) {
        StepWorld x = Edge.boxes(3);
        x.sheet(0, 32, 3);
        for (int i = 0; i < 3; i++) {
          x.write(0, i, i);
        }
        due("the row", x.order(0), 1);
        x.write(0, place, v);
        due(v + " at " + place, x.order(0), BEYOND);
        due("the order stays", 100 * x.at(0) + 10 * x.at(1) + x.at(2), 12);
      }
    }
    for (int boxes = 0; boxes <= 7; boxes++) {
      for (int n = 0; n <= 24; n++) {
        StepWorld x = Edge.boxes(boxes);
        x.sheet(2, 8, n);
        for (int i = 0; i < n; i++) {
          x.write(2, i, boxes - 1 - i);
        }
        due(n + " numbers for " + boxes, x.order(2), n == boxes ? 1 : SIZE);
        if (boxes > 0) {
          due("the first", x.at(0), n == boxes ? boxes - 1 : 0);
          due("the last", x.at(boxes - 1), n == boxes ? 0 : boxes - 1);
        }
      }
    }
  }

  private static void hours() {
    bounds("step", Edge::fresh, (x, v) -> x.step(v), 1, 50);
    for (int hour = 949; hour <= 999; hour++) {
      int most = Math.min(50, 999 - hour);
      int open = hour;
      Supplier<StepWorld> world = () -> at(fresh(), open);
      if (most > 0) {
        due("the last step at " + hour, world.get().step(most), hour + most);
      }
      if (most < 50) {
        due("one more at " + hour, world.get().step(most + 1), FULL);
      }
      due("51 at " + hour, world.get().step(51), BEYOND);
      due("0 at " + hour, world.get().step(0), BEYOND);
    }
    for (int kept = 0; kept <= 8; kept++) {
      int steps = kept;
      int most = Math.min(kept, 6);
      Supplier<StepWorld> world = () -> at(Edge.boxes(1), steps);
      due("kept of " + kept, world.get().count(7), most);
      for (int n = 1; n <= 6; n++) {
        due("back " + n + " of " + kept, world.get().back(n), n <= most ? kept - n : NONE);
      }
      due("back 0", world.get().back(0), BEYOND);
      due("back 7", world.get().back(7), BEYOND);
      due("back MIN", world.get().back(Integer.MIN_VALUE), BEYOND);
      due("back MAX", world.get().back(Integer.MAX_VALUE), BEYOND);
    }
    bounds("left", RICH, (x, v) -> x.left(v), 0, 1);
  }

  private static void eventHours() {
    bounds("event hour at 0", () -> Edge.boxes(1), (x, v) -> x.event(v, 0, 1), 0, 999);
    bounds("event hour at 500", () -> at(Edge.boxes(1), 500), (x, v) -> x.event(v, 0, 1), 500, 999);
    bounds("event hour at 999", () -> at(Edge.boxes(1), 999), (x, v) -> x.event(v, 0, 1), 999, 999);
    StepWorld x = Edge.boxes(1);
    for (int i = 0; i < 20; i++) {
      due("event " + i, x.event(i % 3, 0, 1), i);
    }
    due("event 20", x.event(0, 0, 1), FULL);
    x.step(5);
    due("those that have happened are there still", x.event(9, 0, 1), FULL);
    due("events", x.count(2), 20);
  }

  private static void machines() {
    bounds("end n", BoundsTest::laid, (x, v) -> x.end(v, 0), 1, 3);
    bounds("end sheet", BoundsTest::laid, (x, v) -> x.end(3, v), 0, 3);
    bounds("lay n", BoundsTest::laid, (x, v) -> x.lay(v, -1), 1, 3);
    bounds("lay n", BoundsTest::laid, (x, v) -> x.lay(v, 1), 1, 3);
    for (int n = 1; n <= 3; n++) {
      int machines = n;
      for (int place = 0; place < 2; place++) {
        int i = place;
        bounds("machine of " + n, BoundsTest::laid, (x, v) -> {
          x.write(0, i, v);
          return x.end(machines, 0);
        }, 0, n - 1);
      }
    }
    for (int boxes = 0; boxes <= 7; boxes++) {
      for (int n = 0; n <= 24; n++) {
        StepWorld x = Edge.boxes(boxes);
        x.sheet(3, 16, n);
        due(n + " numbers for " + boxes, x.end(1, 3), n == boxes ? boxes : SIZE);
      }
      due("on one", Edge.boxes(boxes).lay(1, -1), boxes);
      due("on three", Edge.boxes(boxes).lay(3, -1), (boxes + 2) / 3);
    }
    StepWorld x = Edge.boxes(7);
    x.sheet(0, 8, 7);
    for (int i = 0; i < 7; i++) {
      due("the last time", x.time(i, 9), 1);
    }
    due("seven times nine", x.end(3, 0), 63);
  }

  private static StepWorld laid() {
    StepWorld x = Edge.boxes(2);
    x.sheet(0, 32, 2);
    return x;
  }

  private static void besides() {
    bounds("change n", RICH, (x, v) -> x.change(0, v), 1, 30);
    bounds("drift n", RICH, (x, v) -> x.drift(0, v), 1, 30);
    bounds("judge sheet", RICH, (x, v) -> x.judge(0, v), 0, 3);
    bounds("beside rule", RICH, (x, v) -> x.beside(v, 1), 0, 2);
    bounds("beside n", RICH, (x, v) -> x.beside(0, v), 0, 30);
  }

  private static void sheets() {
    bounds("sheet", Edge::fresh, (x, v) -> x.sheet(v, 8, 1), 0, 3);
    int[] bits = {8, 16, 32};
    for (int b : bits) {
      bounds("numbers of " + b, Edge::fresh, (x, v) -> x.sheet(0, b, v), 0, 24, SIZE, BEYOND);
      for (int n = 0; n <= 24; n++) {
        due("has", new StepWorld().sheet(3, b, n), n);
      }
    }
    bounds("numbers of 0", Edge::fresh, (x, v) -> x.sheet(0, 0, v), 0, 24, SIZE, BEYOND);
    int[] near = IntStream.rangeClosed(-33, 65).toArray();
    each("bits", near, b -> new StepWorld().sheet(0, b, 7), b -> b == 0 ? 0 : b == 8 || b == 16 || b == 32 ? 7 : BEYOND);
    due("bits MIN", new StepWorld().sheet(0, Integer.MIN_VALUE, 7), BEYOND);
    due("bits MAX", new StepWorld().sheet(0, Integer.MAX_VALUE, 7), BEYOND);
    bounds("write sheet", RICH, (x, v) -> x.write(v, 0, 0), 0, 3);
    bounds("copy from sheet", RICH, (x, v) -> x.copy(v, 0, 0, 0, 1), 0, 3);
    bounds("copy to sheet", RICH, (x, v) -> x.copy(0, 0, v, 0, 1), 0, 3);
  }

  private static void numbersOfSheets() {
    for (int n = 0; n <= 24; n++) {
      int size = n;
      bounds("number of " + n, () -> sheetOf(size, 0), (x, v) -> x.write(0, v, 1), 0, n - 1);
      bounds("copy n of " + n, () -> sheetOf(size, 24), (x, v) -> x.copy(0, 0, 1, 0, v), 0, n);
      bounds("copy n to " + n, () -> sheetOf(24, size), (x, v) -> x.copy(0, 0, 1, 0, v), 0, n);
      bounds("copy 0 from of " + n, () -> sheetOf(size, 24), (x, v) -> x.copy(0, v, 1, 0, 0), 0, n);
      bounds("copy 0 to of " + n, () -> sheetOf(24, size), (x, v) -> x.copy(0, 0, 1, v, 0), 0, n);
      if (n >= 2) {
        bounds("copy 2 from of " + n, () -> sheetOf(size, 24), (x, v) -> x.copy(0, v, 1, 3, 2), 0, n - 2);
        bounds("copy 2 to of " + n, () -> sheetOf(24, size), (x, v) -> x.copy(0, 3, 1, v, 2), 0, n - 2);
      }
    }
    // Sums of these run over an int.
    StepWorld x = sheetOf(24, 24);
    due("from MAX, n MAX", x.copy(0, Integer.MAX_VALUE, 1, 0, Integer.MAX_VALUE), BEYOND);
    due("to MAX, n MAX", x.copy(0, 0, 1, Integer.MAX_VALUE, Integer.MAX_VALUE), BEYOND);
    due("from MAX, n 24", x.copy(0, Integer.MAX_VALUE, 1, 0, 24), BEYOND);
    due("to MAX, n 24", x.copy(0, 0, 1, Integer.MAX_VALUE, 24), BEYOND);
    due("from 24, n MIN", x.copy(0, 24, 1, 24, Integer.MIN_VALUE), BEYOND);
    due("from MIN, n MIN", x.copy(0, Integer.MIN_VALUE, 1, 0, Integer.MIN_VALUE), BEYOND);
  }

  private static StepWorld sheetOf(int n, int m) {
    StepWorld x = new StepWorld();
    x.sheet(0, 8, n);
    x.sheet(1, 8, m);
    return x;
  }

  private static void countAndStatus() {
    bounds("count", RICH, (x, v) -> x.count(v), 0, 8);
    bounds("status", RICH, (x, v) -> x.status(v), -1, 6);
  }
}
