/** Promises 22 to 30: order, at, step, back, event, next, left, off, best. */
public final class HoursTest extends Due {
  public static void main(String[] args) {
    order();
    stepBounds();
    turns();
    bothAtOnce();
    counting();
    paired();
    jumping();
    owes();
    back();
    backIsAll();
    shut();
    event();
    next();
    left();
    off();
    best();
    bestOfChains();
    close();
  }

  private static void order() {
    StepWorld x = new StepWorld();
    due("sheet 4", x.order(4), BEYOND);
    due("sheet -1", x.order(-1), BEYOND);
    due("missing", x.order(3), MISSING);
    x.sheet(3, 8, 0);
    due("no boxes, no numbers", x.order(3), 1);
    for (int i = 0; i < 3; i++) {
      x.box(0, 0, 0);
    }
    due("too few", x.order(3), SIZE);
    sheet(x, 3, 0, 1, 2, 3);
    due("too many", x.order(3), SIZE);
    sheet(x, 3, 0, 1, 1);
    due("one twice", x.order(3), BEYOND);
    sheet(x, 3, 0, 1, 3);
    due("no box", x.order(3), BEYOND);
    x.sheet(3, 32, 3);
    x.write(3, 0, -1);
    x.write(3, 1, 1);
    due("below 0", x.order(3), BEYOND);
    sheet(x, 3, 2, 0, 1);
    due("a row", x.order(3), 1);
    due("at 0", x.at(0), 2);
    due("at 1", x.at(1), 0);
    due("at 2", x.at(2), 1);
    due("at 3", x.at(3), BEYOND);
    due("at -1", x.at(-1), BEYOND);
    x.box(0, 0, 0);
    due("a new box comes last", x.at(3), 3);
    due("the others stay", x.at(0), 2);
    x.write(3, 0, 0);
    due("the order is no sheet", x.at(0), 2);
  }

  private static void stepBounds() {
    StepWorld x = new StepWorld();
    due("n 0", x.step(0), BEYOND);
    due("n 51", x.step(51), BEYOND);
    due("n -1", x.step(-1), BEYOND);
    for (int i = 1; i < 20; i++) {
      due("50 hours", x.step(50), 50 * i);
    }
    due("above 999", x.step(50), FULL);
    due("beyond ahead of full", x.step(51), BEYOND);
    due("to 999", x.step(49), 999);
    due("not to 1000", x.step(1), FULL);
    due("kept", x.count(7), 6);
  }

  /** A BOX behind another one has its OUT; one ahead of it, and itself, is guessed. */
  private static void turns() {
    StepWorld x = new StepWorld();
    x.box(0, 100, 0);
    x.box(0, 0, 0);
    text(x, 0, "p=p+1");
    text(x, 1, "p=a;q=b;u=p+5");
    x.seam(0, 10);
    x.seam(10, 11);
    x.step(1);
    due("a is the new p", x.of(1, 3), 2);
    due("b is guessed", x.of(1, 4), 0);
    due("p of 1", x.of(1, 1), 2);
    due("LAST of what it gave itself", x.seamIs(1, 2), 7);
    sheet(x, 0, 1, 0);
    x.order(0);
    x.step(1);
    due("a is held", x.of(1, 3), 2);
    due("b is held", x.of(1, 4), 7);
    due("q is b", x.of(1, 2), 7);
    due("LAST", x.seamIs(0, 2), 3);
    x.guess(1);
    x.step(1);
    due("a by a line", x.of(1, 3), 4);
    x.guess(2);
    x.step(1);
    due("a by a curve", x.of(1, 3), 5);
    StepWorld y = new StepWorld();
    y.box(0, 304, 0);
    y.box(0, 0, 0);
    text(y, 0, "q=q+1;v=q*2");
    y.seam(1, 10);
    y.step(1);
    due("out v as it is", y.of(1, 3), 0);
    y.step(1);
    due("out v as it is", y.of(1, 3), 2);
    due("which wasn't off", y.count(5), 0);
  }

  private static void bothAtOnce() {
    StepWorld x = new StepWorld();
    x.box(0, 304, 0);
    text(x, 0, "q=p;p=q+h");
    x.step(1);
    due("p", x.of(0, 1), 4);
    due("q", x.of(0, 2), 3);
    x.step(1);
    due("p with h 1", x.of(0, 1), 4);
    due("q", x.of(0, 2), 4);
  }

  private static void counting() {
    StepWorld x = new StepWorld();
    x.box(3, 0, 0);
    text(x, 0, "p=p+1");
    x.step(1);
    due("the first turn always", x.of(0, 1), 1);
    x.step(2);
    due("no other in", x.of(0, 1), 1);
    x.in(0, 1, 3);
    x.step(1);
    due("another b", x.of(0, 1), 2);
    x.in(0, 0, 1);
    x.in(0, 0, 0);
    x.step(1);
    due("as at the last turn", x.of(0, 1), 2);
    x.in(0, 0, 4);
    x.in(0, 1, 4);
    x.step(3);
    due("both others", x.of(0, 1), 3);
  }

  private static void paired() {
    StepWorld x = new StepWorld();
    x.step(5);
    x.box(5, 0, 0);
    text(x, 0, "p=p+1;q=q+2");
    x.step(1);
    due("the first turn always", x.of(0, 1), 1);
    x.in(0, 0, 3);
    x.step(1);
    due("another a alone", x.of(0, 1), 1);
    x.in(0, 1, 3);
    x.step(1);
    due("another b a turn later", x.of(0, 1), 1);
    x.in(0, 0, 5);
    x.in(0, 1, 5);
    x.step(2);
    due("both at once", x.of(0, 1), 2);
    due("q likewise", x.of(0, 2), 4);
  }

  private static void jumping() {
    StepWorld x = new StepWorld();
    x.box(2, 200, 7);
    x.box(1, 0, 7);
    text(x, 0, "p=p-1");
    x.step(1);
    due("not yet", x.of(0, 1), 1);
    due("no leap", x.count(4), 0);
    x.step(1);
    due("leapt", x.of(0, 1), 7);
    due("a leap", x.count(4), 1);
    due("a smooth one doesn't", x.of(1, 1), 0);
    x.step(7);
    due("again", x.of(0, 1), 7);
    due("leaps", x.count(4), 2);
    StepWorld y = new StepWorld();
    y.box(2, 0, 0);
    y.box(2, 0, 3);
    y.step(4);
    due("to 0 each hour", y.count(4), 5);
  }

  private static void owes() {
    StepWorld x = new StepWorld();
    x.box(0, 0, 0);
    text(x, 0, "p=p+4");
    x.seam(0, 0);
    x.step(1);
    due("4 from 0", x.seamIs(0, 5), 4);
    x.step(1);
    due("8 from 4", x.count(5), 8);
    x.step(1);
    due("2 from 8, round", x.count(5), 12);
    x.guess(1);
    x.step(1);
    due("by a line it was right", x.count(5), 12);
  }

  private static void back() {
    StepWorld x = new StepWorld();
    x.box(0, 0, 0);
    text(x, 0, "p=p+1");
    due("none kept", x.back(1), NONE);
    due("n 0", x.back(0), BEYOND);
    due("n 7", x.back(7), BEYOND);
    due("n -1", x.back(-1), BEYOND);
    x.step(3);
    due("kept", x.count(7), 3);
    due("fewer are kept", x.back(4), NONE);
    due("back", x.back(2), 1);
    due("p", x.of(0, 1), 1);
    due("kept", x.count(7), 1);
    x.step(9);
    due("6 at most", x.count(7), 6);
    due("back to 8", x.back(2), 8);
    due("back to 4", x.back(4), 4);
    due("p", x.of(0, 1), 4);
    due("no more", x.back(1), NONE);
    x.step(4);
    x.step(4);
    due("the last 6 of several calls", x.back(6), 6);
    due("p", x.of(0, 1), 6);
  }

  /** All goes back but SHEETS, THE TAPE, the image, and what is told by status(). */
  private static void backIsAll() {
    StepWorld x = new StepWorld();
    x.whole(7);
    x.step(1);
    x.whole(9);
    x.box(0, 1, 0);
    x.box(2, 0, 3);
    text(x, 0, "p=p+1");
    x.seam(0, 10);
    x.seam(10, 0);
    x.set(0, 203);
    x.step(1);
    x.in(0, 1, 4);
    x.time(0, 7);
    text(x, 0, "p=p+2;u=a");
    x.say(0, 4, 8);
    x.guess(2);
    x.event(2, 0, 5);
    x.seam(0, 11);
    sheet(x, 0, 1, 0);
    x.order(0);
    feed(x, "p=");
    x.image();
    x.step(1);
    due("left", x.left(0), 2);
    due("back to 1", x.back(2), 1);
    int[] counts = {2, 2, 0, 1, 0, 0, 2, 1, 9};
    for (int what = 0; what < counts.length; what++) {
      due("count " + what, x.count(what), counts[what]);
    }
    int[] box = {0, 2, 3, 0, 0, 2, 3, 1, 1};
    for (int what = 0; what < box.length; what++) {
      due("of " + what, x.of(0, what), box[what]);
    }
    due("its text", x.would(0, 0, 0, 0, 0), 1);
    due("said", x.seamIs(0, 6), 0);
    due("LAST", x.seamIs(0, 2), 0);
    due("order", x.at(0), 0);
    due("nothing left", x.left(0), NONE);
    due("no event", x.next(), NONE);
    due("an in without a seam", x.in(1, 1, 2), 0);
    due("rule", x.guess(0), 0);
    due("the sheet stays", x.write(0, 1, 0), 1);
    due("findings stay told", x.status(3), 2);
    due("back to 0", x.back(1), 0);
    due("no boxes", x.count(0), 0);
    due("the whole", x.whole(3), 7);
    due("the image stays", x.undo(), 2);
    due("its boxes", x.count(0), 2);
  }

  private static void shut() {
    StepWorld x = new StepWorld();
    x.box(0, 0, 0);
    x.step(3);
    due("back", x.back(1), 2);
    x.box(4, 0, 0);
    due("shut", x.back(1), STATE);
    due("shut ahead of none", x.back(6), STATE);
    due("beyond ahead of shut", x.back(7), BEYOND);
    due("kept all the same", x.count(7), 2);
  }

  private static void event() {
    StepWorld x = new StepWorld();
    x.box(0, 100, 0);
    text(x, 0, "p=p+1");
    x.step(4);
    due("ahead of the open one", x.event(3, 0, 1), BEYOND);
    due("hour 1000", x.event(1000, 0, 1), BEYOND);
    due("no box", x.event(4, 1, 1), BEYOND);
    due("v 10", x.event(4, 0, 10), BEYOND);
    due("v -1", x.event(4, 0, -1), BEYOND);
    due("the open one", x.event(4, 0, 8), 0);
    due("the same hour", x.event(4, 0, 3), 1);
    due("hour 999", x.event(999, 0, 3), 2);
    due("nothing yet", x.of(0, 1), 5);
    x.step(1);
    due("the last of its hour, then a turn", x.of(0, 1), 4);
    x.step(1);
    due("once", x.of(0, 1), 5);
    StepWorld y = new StepWorld();
    y.box(0, 0, 0);
    y.box(0, 0, 0);
    y.event(1, 1, 6);
    due("the hour ahead of it", y.step(1), 1);
    due("not yet", y.of(1, 1), 0);
    y.image();
    y.step(1);
    due("of box 1", y.of(1, 1), 6);
    due("not of box 0", y.of(0, 1), 0);
    y.undo();
    y.step(1);
    due("of box 1 again", y.of(1, 1), 6);
    for (int i = 3; i < 20; i++) {
      due("event " + i, x.event(50, 0, 1), i);
    }
    due("full", x.event(50, 0, 1), FULL);
    due("beyond ahead of full", x.event(50, 1, 1), BEYOND);
    due("events", x.count(2), 20);
  }

  private static void next() {
    StepWorld x = new StepWorld();
    due("none", x.next(), NONE);
    x.box(0, 0, 0);
    x.event(7, 0, 1);
    x.event(0, 0, 1);
    due("hour 0", x.next(), 0);
    x.step(1);
    x.event(2, 0, 1);
    x.event(999, 0, 1);
    due("the least", x.next(), 2);
    x.step(1);
    due("the open one", x.next(), 2);
    x.step(1);
    due("the next", x.next(), 7);
    x.step(5);
    due("the last", x.next(), 999);
  }

  private static void left() {
    StepWorld x = new StepWorld();
    x.box(0, 300, 0);
    x.box(0, 300, 0);
    due("what 2", x.left(2), BEYOND);
    due("what -1", x.left(-1), BEYOND);
    due("nothing", x.left(1), NONE);
    text(x, 0, "p=p+1");
    x.seam(10, 0);
    x.seam(1, 11);
    x.seam(0, 10);
    x.say(2, 4, 6);
    x.step(3);
    due("4, 5, 6 don't leave", x.left(0), NONE);
    x.step(1);
    due("7 leaves", x.left(0), 3);
    due("by seam 2", x.left(1), 2);
    x.say(0, 9, 9);
    x.step(1);
    due("the first is kept", x.left(0), 3);
    due("and its seam", x.left(1), 2);
    StepWorld y = new StepWorld();
    y.box(0, 0, 0);
    y.seam(0, 1);
    y.seam(0, 0);
    y.say(0, 5, 9);
    y.say(1, 5, 9);
    y.step(1);
    due("a guess leaves too", y.left(0), 0);
    due("a is told ahead of b", y.left(1), 1);
    StepWorld z = new StepWorld();
    z.box(0, 0, 0);
    z.box(0, 0, 0);
    z.seam(0, 0);
    z.seam(0, 10);
    z.say(0, 5, 9);
    z.say(1, 5, 9);
    sheet(z, 0, 1, 0);
    z.order(0);
    z.step(1);
    due("by turns", z.left(1), 1);
  }

  private static void off() {
    StepWorld x = new StepWorld();
    due("nothing", x.off(), 0);
    x.box(0, 0, 0);
    x.box(0, 0, 0);
    text(x, 0, "p=p+3");
    x.seam(0, 11);
    x.seam(0, 0);
    due("one is right", x.off(), 3);
    x.event(0, 0, 4);
    due("with an event", x.off(), 3);
    sheet(x, 0, 1, 0);
    x.order(0);
    due("by another order", x.off(), 6);
    due("nothing changes", x.count(3), 0);
    due("p", x.of(0, 1), 0);
    due("owes", x.count(5), 0);
    x.step(1);
    due("as it said", x.count(5), 6);
  }

  private static void best() {
    StepWorld x = new StepWorld();
    due("no boxes", x.best(-1), NONE);
    due("no such place", x.best(0), BEYOND);
    due("place -2", x.best(-2), BEYOND);
    for (int i = 0; i < 5; i++) {
      x.box(0, 0, 0);
      text(x, i, "p=p+1+a;u=p");
    }
    x.seam(40, 30);
    x.seam(30, 10);
    x.seam(10, 0);
    due("none is off", x.best(-1), 0);
    int[] row = {2, 4, 3, 1, 0};
    for (int i = 0; i < 5; i++) {
      due("at " + i, x.best(i), row[i]);
    }
    due("place 5", x.best(5), BEYOND);
    due("the order stays", x.at(0), 0);
    due("nothing changes", x.of(0, 1), 0);
    x.seam(0, 40);
    // A ring of four is off by 4 wherever it is cut, and however often: the first row of all is as good.
    due("a ring of four", x.best(-1), 4);
    for (int i = 0; i < 5; i++) {
      due("ring, at " + i, x.best(i), i);
    }
    x.set(4, 600);
    // Cut ahead of box 0, p are 1, 8, 9, 0 by 0, 4, 3, 1: what box 0 guessed is right.
    due("with p 6", x.best(-1), 0);
    int[] cut = {0, 2, 4, 3, 1};
    for (int i = 0; i < 5; i++) {
      due("cut, at " + i, x.best(i), cut[i]);
    }
    x.box(0, 0, 0);
    due("six", x.best(-1), SIZE);
    due("beyond ahead of size", x.best(6), BEYOND);
  }

  /** Of a chain of all BOXES just one row is not off. */
  private static void bestOfChains() {
    int[][] chains = {{4, 3, 2, 1, 0}, {0, 1, 2, 3, 4}, {1, 4, 2, 0, 3}, {3, 0, 4, 2, 1}, {4, 0, 3, 1, 2}, {2, 4, 3, 1, 0}};
    for (int[] chain : chains) {
      StepWorld x = new StepWorld();
      for (int i = 0; i < 5; i++) {
        x.box(0, 0, 0);
        text(x, i, "p=a+1");
      }
      for (int i = 1; i < 5; i++) {
        x.seam(10 * chain[i - 1], 10 * chain[i]);
      }
      due("not off", x.best(-1), 0);
      for (int i = 0; i < 5; i++) {
        due("chain, at " + i, x.best(i), chain[i]);
      }
    }
  }
}
