/** Promises 40 to 44: image, undo, tear, count, status. */
public final class ImagesTest extends Due {
  public static void main(String[] args) {
    images();
    imageIsAll();
    wholeComesBack();
    madeAnew();
    count();
    status();
    findingsChangeNothing();
    close();
  }

  private static void images() {
    StepWorld x = new StepWorld();
    due("nothing kept", x.undo(), NONE);
    due("nothing to tear", x.tear(), 0);
    x.step(3);
    due("image", x.image(), 1);
    x.step(2);
    due("hours are kept", x.count(7), 5);
    due("undo", x.undo(), 3);
    due("no hours are kept", x.count(7), 0);
    due("none to go back", x.back(1), NONE);
    x.step(4);
    due("it stays", x.undo(), 3);
    x.step(1);
    due("the latest", x.image(), 1);
    x.step(1);
    due("of hour 4", x.undo(), 4);
    due("tear", x.tear(), 1);
    due("torn", x.tear(), 0);
    due("nothing kept", x.undo(), NONE);
    due("the hour stays", x.count(3), 4);
  }

  private static void imageIsAll() {
    StepWorld x = new StepWorld();
    x.box(3, 100, 0);
    x.box(2, 100, 5);
    text(x, 0, "p=p+1;v=a");
    text(x, 1, "p=p-1");
    x.seam(0, 10);
    x.say(0, 0, 1);
    x.event(5, 0, 7);
    x.time(0, 4);
    x.guess(1);
    x.step(2);
    x.image();
    text(x, 0, "p=3");
    x.set(1, 909);
    x.in(0, 0, 6);
    x.time(0, 9);
    x.guess(2);
    x.seam(11, 0);
    x.say(0, 3, 3);
    x.event(6, 0, 7);
    x.box(4, 0, 0);
    sheet(x, 0, 2, 1, 0);
    x.order(0);
    feed(x, "p=");
    x.step(3);
    due("undo", x.undo(), 2);
    int[] counts = {2, 1, 1, 2, 1, 0, 2, 0, 10};
    for (int what = 0; what < counts.length; what++) {
      due("count " + what, x.count(what), counts[what]);
    }
    int[] box = {3, 2, 0, 0, 0, 2, 0, 2, 4};
    for (int what = 0; what < box.length; what++) {
      due("of " + what, x.of(0, what), box[what]);
    }
    int[] seam = {0, 10, 2, 2, 0, 0, 0, 1};
    for (int what = 0; what < seam.length; what++) {
      due("seam " + what, x.seamIs(0, what), seam[what]);
    }
    due("left in hour 0", x.left(0), 0);
    due("order", x.at(0), 0);
    due("event", x.next(), 5);
    due("rule", x.guess(1), 1);
    due("p of 1", x.of(1, 1), 4);
    x.step(1);
    due("a counting box knows its last turn", x.of(0, 1), 2);
    due("the sheet stays", x.end(3, 0), SIZE);
    due("back, as the shut box is gone", x.back(1), 2);
  }

  private static void wholeComesBack() {
    StepWorld x = new StepWorld();
    x.whole(4);
    x.image();
    x.whole(12);
    x.box(0, 1111, 0);
    due("undo", x.undo(), 0);
    due("no box", x.count(0), 0);
    due("whole", x.whole(5), 4);
  }

  /** What is made where something was taken back has nothing of it; what comes back has nothing of what was made. */
  private static void madeAnew() {
    StepWorld x = new StepWorld();
    x.step(1);
    x.box(2, 0, 5);
    x.box(3, 0, 0);
    text(x, 1, "p=p+1");
    x.seam(0, 10);
    x.seam(0, 0);
    x.in(0, 1, 4);
    x.in(1, 1, 4);
    x.say(1, 2, 3);
    x.step(2);
    due("left by seam 1", x.left(1), 1);
    x.image();
    due("to no boxes", x.back(3), 0);
    due("a new one", x.box(3, 0, 0), 0);
    due("a new one", x.box(2, 107, 9), 1);
    for (int what = 3; what < 5; what++) {
      due("a new in", x.of(0, what), 0);
    }
    due("no lines", x.of(1, 7), 0);
    due("a new time", x.of(0, 8), 1);
    text(x, 0, "p=p+1");
    due("a new seam", x.seam(10, 11), 0);
    due("and one more", x.seam(11, 0), 1);
    int[] seam = {10, 11, 0, 0, 0, 0, 0, 9};
    for (int what = 0; what < seam.length; what++) {
      due("new seam " + what, x.seamIs(0, what), seam[what]);
    }
    due("new high", x.seamIs(1, 7), 9);
    due("new low", x.seamIs(1, 6), 0);
    x.say(0, 5, 9);
    x.step(1);
    due("its first turn", x.of(0, 1), 1);
    due("left by seam 0", x.left(1), 0);
    due("undo", x.undo(), 3);
    due("kind", x.of(0, 0), 2);
    due("jump", x.of(0, 9), 5);
    due("kind of 1", x.of(1, 0), 3);
    due("left by seam 1", x.left(1), 1);
    due("left in hour 1", x.left(0), 1);
    due("p of 1", x.of(1, 1), 1);
    x.step(1);
    due("both ins of 1 are as at its last turn", x.of(1, 1), 1);
  }

  private static void count() {
    StepWorld x = new StepWorld();
    x.whole(9);
    x.box(2, 0, 5);
    x.box(0, 0, 0);
    x.seam(0, 10);
    x.seam(0, 0);
    x.seam(0, 1);
    for (int i = 0; i < 4; i++) {
      x.event(9, 1, 1);
    }
    feed(x, "p=p+1;");
    x.step(7);
    int[] counts = {2, 3, 4, 7, 1, 8, 6, 6, 9};
    for (int what = 0; what < counts.length; what++) {
      due("count " + what, x.count(what), counts[what]);
    }
    due("what 9", x.count(9), BEYOND);
    due("what -1", x.count(-1), BEYOND);
  }

  private static void status() {
    StepWorld x = new StepWorld();
    for (int which = -1; which < 7; which++) {
      due("none yet", x.status(which), 0);
    }
    x.box(0, 0, 0);
    x.whole(1);
    x.feed(0, 9);
    for (int i = 0; i < 21; i++) {
      x.event(0, 0, 0);
    }
    x.as(0, 4);
    x.as(0, 5);
    x.as(0, 1);
    x.undo();
    x.whole(5);
    x.order(0);
    x.order(1);
    x.sheet(0, 8, -1);
    int[] told = {11, 2, 1, 3, 1, 1, 2, 1};
    for (int which = -1; which < 7; which++) {
      due("status " + which, x.status(which), told[which + 1]);
    }
    due("which 7", x.status(7), BEYOND);
    due("counted from then on", x.status(0), 3);
    due("which -2", x.status(-2), BEYOND);
    due("all", x.status(-1), 13);
    x.text(0);
    due("a fault is no finding", x.status(-1), 13);
  }

  private static void findingsChangeNothing() {
    StepWorld x = new StepWorld();
    x.box(4, 102, 0);
    x.seam(0, 0);
    feed(x, "p=1");
    x.step(2);
    int[] before = seen(x);
    x.whole(3);
    x.box(0, 99, 0);
    x.set(0, 99);
    x.in(0, 0, 3);
    x.time(0, 10);
    x.feed(0, 5);
    x.text(1);
    x.seam(0, 0);
    x.say(0, 4, 3);
    x.guess(3);
    x.order(0);
    x.step(51);
    x.back(1);
    x.event(1, 0, 0);
    x.change(1, 1);
    x.drift(0, 31);
    x.undo();
    int[] after = seen(x);
    for (int i = 0; i < before.length; i++) {
      due("seen " + i, after[i], before[i]);
    }
    due("all were findings", x.status(-1), 17);
  }

  private static int[] seen(StepWorld x) {
    int[] seen = new int[26];
    for (int i = 0; i < 9; i++) {
      seen[i] = x.count(i);
      seen[9 + i] = x.of(0, i);
    }
    for (int i = 0; i < 8; i++) {
      seen[18 + i] = x.seamIs(0, i);
    }
    return seen;
  }
}
