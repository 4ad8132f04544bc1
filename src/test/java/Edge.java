import java.util.ArrayList;
import java.util.List;
import java.util.function.IntUnaryOperator;
import java.util.function.Supplier;
import java.util.function.ToIntFunction;

/** What the tests of boundary cases build on: worlds to ask, bounds on both sides, and twins that must stay alike. */
class Edge extends Due {
  /** A call with one of its numbers left open. */
  interface CallBy {
    int on(StepWorld x, int v);
  }

  /** What is done with both twins ahead of the look at them. */
  interface Deed {
    void on(StepWorld x);
  }

  /** Far from all bounds, but near to some by their lowest bits or digits. */
  private static final int[] FAR = {
    Integer.MIN_VALUE, Integer.MIN_VALUE + 1, -65536, -1000, -256, -101, -100, -99, -10, 32, 33, 100, 101, 110, 128, 200, 255,
    256, 257, 1000, 1001, 1515, 65535, 65536, 65537, 1 << 30, Integer.MAX_VALUE - 1, Integer.MAX_VALUE};

  static final int FINDING_LEAST = SIZE;
  static final int FINDING_MOST = BEYOND;

  static boolean isFinding(int answer) {
    return answer >= FINDING_LEAST && answer <= FINDING_MOST;
  }

  /** Each number from least to most is taken; one less, one more, and those far from them are answered by a finding. */
  static void bounds(String what, Supplier<StepWorld> world, CallBy call, int least, int most, int below, int above) {
    for (int v = least; v <= most; v++) {
      int answer = call.on(world.get(), v);
      due(what + " " + v + " is taken, but answered " + answer, answer == below || answer == above ? 0 : 1, 1);
    }
    due(what + " " + (least - 1), call.on(world.get(), least - 1), below);
    due(what + " " + (most + 1), call.on(world.get(), most + 1), above);
    for (int v : FAR) {
      if (v < least || v > most) {
        due(what + " " + v, call.on(world.get(), v), v < least ? below : above);
      }
    }
  }

  static void bounds(String what, Supplier<StepWorld> world, CallBy call, int least, int most) {
    bounds(what, world, call, least, most, BEYOND, BEYOND);
  }

  /** Each number is answered as a rule of the test tells it. */
  static void each(String what, int[] numbers, IntUnaryOperator call, IntUnaryOperator want) {
    for (int v : numbers) {
      due(what + " " + v, call.applyAsInt(v), want.applyAsInt(v));
    }
  }

  // ---- twins

  /** A call answers a finding; nothing changes but status(), which tells that one more. */
  static void refused(String what, Supplier<StepWorld> world, ToIntFunction<StepWorld> call, int finding) {
    StepWorld x = world.get();
    int[] before = told(x);
    due(what, call.applyAsInt(x), finding);
    int[] after = told(x);
    for (int which = 0; which < 7; which++) {
      int more = finding == BEYOND - which ? 1 : 0;
      due(what + ": status(" + which + ")", after[which + 1] - before[which + 1], more);
    }
    due(what + ": status(-1)", after[0] - before[0], 1);
    alike(what, world, call, y -> 0);
  }

  /** A call is answered, and nothing changes, status() neither. */
  static void quiet(String what, Supplier<StepWorld> world, ToIntFunction<StepWorld> call, int want) {
    StepWorld x = world.get();
    int[] before = told(x);
    due(what, call.applyAsInt(x), want);
    int[] after = told(x);
    for (int i = 0; i < before.length; i++) {
      due(what + ": told " + (i - 1), after[i], before[i]);
    }
    alike(what, world, call, y -> 0);
  }

  private static int[] told(StepWorld x) {
    int[] told = new int[8];
    for (int which = -1; which < 7; which++) {
      told[which + 1] = x.status(which);
    }
    return told;
  }

  private static final Deed[] DEEDS = {
    x -> { },
    x -> x.step(1),
    x -> x.step(40),
    x -> x.back(1),
    x -> x.back(6),
    x -> x.undo(),
    x -> x.text(0),
    x -> { x.box(1, 1, 0); x.step(2); },
    x -> { x.undo(); x.step(3); },
    x -> { x.order(0); x.seam(0, 1); x.event(x.count(3), 0, 1); x.step(1); },
  };

  /** Two worlds made alike, one by one call and one by another, are alike whatever is done with both then. */
  static void alike(String what, Supplier<StepWorld> world, ToIntFunction<StepWorld> one, ToIntFunction<StepWorld> other) {
    for (int i = 0; i < DEEDS.length; i++) {
      StepWorld x = world.get();
      StepWorld y = world.get();
      one.applyAsInt(x);
      other.applyAsInt(y);
      DEEDS[i].on(x);
      DEEDS[i].on(y);
      same(what + ": behind deed " + i, seen(x), seen(y));
    }
    StepWorld x = world.get();
    StepWorld y = world.get();
    one.applyAsInt(x);
    other.applyAsInt(y);
    same(what + ": sheets", sheetsSeen(x), sheetsSeen(y));
  }

  private static void same(String what, List<Integer> got, List<Integer> want) {
    due(what + ": as much is seen", got.size(), want.size());
    for (int i = 0; i < Math.min(got.size(), want.size()); i++) {
      due(what + ": seen " + i, got.get(i), want.get(i));
    }
  }

  /** All that can be asked of boxes, seams and hours; under 350 calls with 7 boxes and 14 seams. */
  static List<Integer> seen(StepWorld x) {
    List<Integer> seen = new ArrayList<>();
    for (int what = 0; what < 9; what++) {
      seen.add(x.count(what));
    }
    for (int box = 0; box < x.count(0); box++) {
      for (int what = 0; what < 10; what++) {
        seen.add(x.of(box, what));
      }
      for (int what = 0; what < 4; what++) {
        seen.add(x.would(box, what, 1, 101, 7));
      }
      seen.add(x.hangs(box));
      seen.add(x.at(box));
    }
    for (int seam = 0; seam < x.count(1); seam++) {
      for (int what = 0; what < 8; what++) {
        seen.add(x.seamIs(seam, what));
      }
      seen.add(x.guessed(seam));
    }
    seen.add(x.next());
    seen.add(x.left(0));
    seen.add(x.left(1));
    seen.add(x.off());
    for (int rule = 0; rule < 3; rule++) {
      seen.add(x.beside(rule, 30));
    }
    int kept = 0;
    while (kept < 7 && !isFinding(x.back(1))) {
      kept++;
      seen.add(x.of(0, 1));
      seen.add(x.count(5));
    }
    seen.add(kept);
    return seen;
  }

  /** How many numbers each sheet has, of how many bits, and how far it is a record of each of the first SEAMS. */
  static List<Integer> sheetsSeen(StepWorld x) {
    List<Integer> seen = new ArrayList<>();
    for (int s = 0; s < 4; s++) {
      for (int i = 0; i <= 25; i++) {
        seen.add(x.copy(s, i, s, i, 0));
      }
      for (int t = 0; t < 4; t++) {
        seen.add(x.copy(s, 0, t, 0, 0));
      }
      for (int seam = 0; seam < Math.min(4, x.count(1)); seam++) {
        seen.add(x.judge(seam, s));
      }
      seen.add(x.end(3, s));
    }
    for (int bits = 8; bits <= 32; bits *= 2) {
      for (int s = 0; s < 3; s++) {
        x.sheet(3, bits, 0);
        seen.add(x.copy(s, 0, 3, 0, 0));
      }
    }
    return seen;
  }

  // ---- worlds to ask

  static StepWorld fresh() {
    return new StepWorld();
  }

  static StepWorld boxes(int n) {
    StepWorld x = new StepWorld();
    for (int i = 0; i < n; i++) {
      x.box(0, 0, 0);
    }
    return x;
  }

  /** Goes on to an HOUR. */
  static StepWorld at(StepWorld x, int hour) {
    while (x.count(3) < hour) {
      x.step(Math.min(50, hour - x.count(3)));
    }
    return x;
  }

  /** Seven boxes, each IN with a SEAM: 14. */
  static StepWorld full() {
    StepWorld x = boxes(7);
    for (int to = 0; to < 14; to++) {
      x.seam(10 * (to % 7) + to / 7, 10 * (to / 2) + to % 2);
    }
    return x;
  }

  /** Boxes of most kinds with texts, seams, a ring, events, an order, hours behind, an image, sheets, and a TAPE. */
  static StepWorld rich() {
    StepWorld x = new StepWorld();
    x.box(0, 102, 0);
    x.box(2, 205, 7);
    x.box(3, 3, 0);
    x.box(5, 408, 0);
    text(x, 0, "p=p+1;u=p+q");
    text(x, 1, "p=p-1;v=a*2");
    text(x, 2, "p=p+a;q=q+1;u=a+b");
    text(x, 3, "p=p+a*b;v=a-h");
    x.seam(0, 10);
    x.seam(11, 0);
    x.seam(20, 21);
    x.seam(10, 30);
    x.seam(1, 31);
    x.in(2, 0, 3);
    x.time(1, 4);
    x.time(3, 9);
    sheet(x, 0, 3, 0, 1, 2);
    x.order(0);
    x.event(1, 1, 5);
    x.event(6, 2, 4);
    x.event(8, 0, 0);
    x.say(3, 2, 8);
    x.guess(1);
    x.step(4);
    x.image();
    x.in(2, 0, 6);
    x.guess(2);
    x.step(1);
    x.say(0, 1, 9);
    sheet(x, 1, 2, 0, 1, 0);
    x.sheet(2, 16, 24);
    for (int i = 0; i < 24; i++) {
      x.write(2, i, i % 10);
    }
    feed(x, "p=p+7;q=a%3");
    return x;
  }
}
