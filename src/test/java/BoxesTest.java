/** Promises 1 to 8 and 12: a new object, whole, box, as, of, set, in, time, would. */
public final class BoxesTest extends Due {
  public static void main(String[] args) {
    newObject();
    whole();
    box();
    as();
    of();
    set();
    in();
    time();
    would();
    close();
  }

  private static void newObject() {
    StepWorld x = new StepWorld();
    int[] counts = {0, 0, 0, 0, 0, 0, 0, 0, 10};
    for (int what = 0; what < counts.length; what++) {
      due("new: count(" + what + ")", x.count(what), counts[what]);
    }
    for (int s = 0; s < 4; s++) {
      due("new: a sheet is missing", x.order(s), MISSING);
    }
    due("new: only what was just asked is told", x.status(-1), 4);
    due("new: rule", x.guess(0), 0);
    due("new: no image", x.undo(), NONE);
    due("new: no image to tear", x.tear(), 0);
    due("new: no order", x.at(0), BEYOND);
    due("new: nothing left", x.left(0), NONE);
    due("new: tape", x.wipe(), 0);
  }

  private static void whole() {
    StepWorld x = new StepWorld();
    due("whole(1)", x.whole(1), BEYOND);
    due("whole(17)", x.whole(17), BEYOND);
    due("whole(-3)", x.whole(-3), BEYOND);
    due("whole(2)", x.whole(2), 10);
    due("whole(16)", x.whole(16), 2);
    due("whole(16) again", x.whole(16), 16);
    due("count(8)", x.count(8), 16);
    due("box of 15", x.box(0, 1515, 15), 0);
    due("whole with a box", x.whole(5), STATE);
    due("whole beyond is asked ahead of state", x.whole(1), BEYOND);
    due("whole stays", x.count(8), 16);
  }

  private static void box() {
    StepWorld x = new StepWorld();
    due("kind -1", x.box(-1, 0, 0), BEYOND);
    due("kind 6", x.box(6, 0, 0), BEYOND);
    due("states -1", x.box(0, -1, 0), BEYOND);
    due("q 10", x.box(0, 10, 0), BEYOND);
    due("p 10", x.box(0, 1000, 0), BEYOND);
    due("states far above", x.box(0, Integer.MAX_VALUE, 0), BEYOND);
    due("jump 10", x.box(0, 0, 10), BEYOND);
    due("jump -1", x.box(2, 0, -1), BEYOND);
    for (int i = 0; i < 7; i++) {
      due("box " + i, x.box(i % 6, 101 * i, 9), i);
      due("its place", x.at(i), i);
      due("its time", x.of(i, 8), 1);
      due("its lines", x.of(i, 7), 0);
    }
    due("beyond ahead of full", x.box(0, 0, 10), BEYOND);
    due("full", x.box(0, 0, 0), FULL);
    due("boxes", x.count(0), 7);
    due("p", x.of(6, 1), 6);
    due("q", x.of(6, 2), 6);
  }

  private static void as() {
    StepWorld x = new StepWorld();
    // Which kinds each kind is, as bits.
    int[] is = {1, 3, 7, 9, 17, 41};
    for (int kind = 0; kind < 6; kind++) {
      x.box(kind, 0, 0);
    }
    for (int box = 0; box < 6; box++) {
      for (int kind = 0; kind < 6; kind++) {
        due("as(" + box + ", " + kind + ")", x.as(box, kind), (is[box] >> kind & 1) == 1 ? box : KIND);
      }
    }
    due("as kind 6", x.as(0, 6), BEYOND);
    due("as kind -1", x.as(0, -1), BEYOND);
    due("as no box", x.as(6, 0), BEYOND);
    due("as box -1", x.as(-1, 0), BEYOND);
  }

  private static void of() {
    StepWorld x = new StepWorld();
    x.box(1, 307, 4);
    x.box(2, 809, 6);
    text(x, 1, "u=a+q;v=b*2;u=a-p");
    x.in(1, 0, 5);
    x.in(1, 1, 8);
    x.time(1, 9);
    int[] first = {1, 3, 7, 0, 0, 3, 7, 0, 1, KIND};
    int[] second = {2, 8, 9, 5, 8, 7, 6, 2, 9, 6};
    for (int what = 0; what < 10; what++) {
      due("of(0, " + what + ")", x.of(0, what), first[what]);
      due("of(1, " + what + ")", x.of(1, what), second[what]);
    }
    due("of what 10", x.of(1, 10), BEYOND);
    due("of what -1", x.of(1, -1), BEYOND);
    due("of no box", x.of(2, 0), BEYOND);
    due("of box -1", x.of(-1, 0), BEYOND);
    due("beyond ahead of kind", x.of(2, 9), BEYOND);
  }

  private static void set() {
    StepWorld x = new StepWorld();
    x.box(0, 307, 0);
    due("set", x.set(0, 902), 307);
    due("p", x.of(0, 1), 9);
    due("q", x.of(0, 2), 2);
    due("set no box", x.set(1, 0), BEYOND);
    due("set q 10", x.set(0, 10), BEYOND);
    due("set p 10", x.set(0, 1001), BEYOND);
    due("set -1", x.set(0, -1), BEYOND);
    due("set back", x.set(0, 0), 902);
  }

  private static void in() {
    StepWorld x = new StepWorld();
    x.box(0, 0, 0);
    due("a was 0", x.in(0, 0, 4), 0);
    due("a was 4", x.in(0, 0, 5), 4);
    due("b was 0", x.in(0, 1, 9), 0);
    due("v 10", x.in(0, 1, 10), BEYOND);
    due("v -1", x.in(0, 1, -1), BEYOND);
    due("door 2", x.in(0, 2, 1), BEYOND);
    due("door -1", x.in(0, -1, 1), BEYOND);
    due("no box", x.in(1, 0, 1), BEYOND);
    x.seam(0, 1);
    due("b has a seam", x.in(0, 1, 1), STATE);
    due("beyond ahead of state", x.in(0, 1, 10), BEYOND);
    due("b stays till a turn", x.of(0, 4), 9);
    due("a has none", x.in(0, 0, 1), 5);
  }

  private static void time() {
    StepWorld x = new StepWorld();
    x.box(0, 0, 0);
    due("time 9", x.time(0, 9), 1);
    due("time 1", x.time(0, 1), 9);
    due("time 0", x.time(0, 0), BEYOND);
    due("time 10", x.time(0, 10), BEYOND);
    due("time of no box", x.time(1, 5), BEYOND);
    due("time of box -1", x.time(-1, 5), BEYOND);
    due("time stays", x.of(0, 8), 1);
  }

  private static void would() {
    StepWorld x = new StepWorld();
    x.box(2, 0, 7);
    due("p without a line", x.would(0, 0, 305, 0, 0), 3);
    due("q without a line", x.would(0, 1, 305, 0, 0), 5);
    due("u without a line", x.would(0, 2, 305, 0, 0), 3);
    due("v without a line", x.would(0, 3, 305, 0, 0), 5);
    text(x, 0, "p=p-3;q=q+h;u=a*b;v=p%q");
    due("new p; no leap by the text alone", x.would(0, 0, 305, 0, 0), 0);
    due("new q with hour 999", x.would(0, 1, 305, 0, 999), 4);
    due("u", x.would(0, 2, 305, 807, 0), 6);
    due("v", x.would(0, 3, 905, 0, 0), 4);
    due("v by 0", x.would(0, 3, 900, 0, 0), 0);
    due("what 4", x.would(0, 4, 0, 0, 0), BEYOND);
    due("what -1", x.would(0, -1, 0, 0, 0), BEYOND);
    due("states", x.would(0, 0, 1000, 0, 0), BEYOND);
    due("ins", x.would(0, 0, 0, 10, 0), BEYOND);
    due("ins -1", x.would(0, 0, 0, -1, 0), BEYOND);
    due("hour 1000", x.would(0, 0, 0, 0, 1000), BEYOND);
    due("hour -1", x.would(0, 0, 0, 0, -1), BEYOND);
    due("no box", x.would(1, 0, 0, 0, 0), BEYOND);
    due("nothing changes", x.of(0, 1), 0);
    StepWorld y = new StepWorld();
    y.box(3, 0, 0);
    text(y, 0, "p=p+1");
    y.step(1);
    due("a counting box works by its text here", y.would(0, 0, 400, 0, 0), 5);
  }
}
