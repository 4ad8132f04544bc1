/** Images, counts and what is told of findings, at their bounds. */
public final class ImageEdgesTest extends Edge {
  public static void main(String[] args) {
    none();
    emptyWorld();
    latest();
    keptHours();
    tapeAndSheets();
    fullWorld();
    undoIsAll();
    eventsComeBack();
    tearing();
    counts();
    statusOfEach();
    statusItself();
    statusStays();
    close();
  }

  private static void none() {
    StepWorld x = new StepWorld();
    due("undo", x.undo(), NONE);
    due("tear", x.tear(), 0);
    due("image", x.image(), 1);
    due("image again", x.image(), 1);
    due("tear", x.tear(), 1);
    due("tear again", x.tear(), 0);
    due("undo", x.undo(), NONE);
    due("two findings", x.status(-1), 2);
    due("of none", x.status(3), 2);
  }

  /** An image of an empty world takes all away. */
  private static void emptyWorld() {
    StepWorld x = new StepWorld();
    x.image();
    x.whole(16);
    x.box(0, 1515, 0);
    x.seam(0, 0);
    x.event(3, 0, 1);
    x.guess(2);
    x.say(0, 0, 0);
    x.step(5);
    due("left", x.left(0), 1);
    due("undo", x.undo(), 0);
    int[] counts = {0, 0, 0, 0, 0, 0, 0, 0, 10};
    for (int what = 0; what < 9; what++) {
      due("count " + what, x.count(what), counts[what]);
    }
    due("rule", x.guess(0), 0);
    due("left", x.left(0), NONE);
    due("whole can be told", x.whole(2), 10);
    due("no box", x.of(0, 0), BEYOND);
    due("no seam", x.seamIs(0, 0), BEYOND);
    due("no place", x.at(0), BEYOND);
    due("a new box is the first", x.box(0, 101, 1), 0);
    due("a new seam is the first", x.seam(0, 0), 0);
    due("with the whole's high", x.seamIs(0, 7), 1);
    due("a new event is the first", x.event(0, 0, 0), 0);
  }

  private static void latest() {
    StepWorld x = Edge.boxes(1);
    text(x, 0, "p=p+1");
    for (int i = 1; i <= 9; i++) {
      x.step(1);
      due("image", x.image(), 1);
    }
    x.step(3);
    due("the latest", x.undo(), 9);
    due("p", x.of(0, 1), 9);
    x.step(3);
    due("which stays", x.undo(), 9);
    due("which stays", x.undo(), 9);
    x.set(0, 300);
    due("what is done behind doesn't reach it", x.undo(), 9);
    due("p", x.of(0, 1), 9);
    at(x, 999);
    due("from the last hour", x.undo(), 9);
    at(x, 999);
    x.image();
    due("an image of the last hour", x.undo(), 999);
    due("no step", x.step(1), FULL);
  }

  private static void keptHours() {
    StepWorld x = Edge.boxes(1);
    text(x, 0, "p=p+1");
    x.step(8);
    due("kept", x.count(7), 6);
    x.image();
    due("kept still", x.count(7), 6);
    due("back goes on", x.back(1), 7);
    due("undo", x.undo(), 8);
    due("none kept", x.count(7), 0);
    due("no back", x.back(1), NONE);
    x.step(2);
    due("two kept", x.count(7), 2);
    due("no further than the image", x.back(3), NONE);
    due("back to it", x.back(2), 8);
    due("p", x.of(0, 1), 8);
    x.step(6);
    due("tear", x.tear(), 1);
    due("six kept", x.count(7), 6);
    due("back", x.back(6), 8);
  }

  private static void tapeAndSheets() {
    StepWorld x = Edge.boxes(1);
    feed(x, "p=3");
    x.sheet(0, 8, 2);
    x.image();
    feed(x, ";q=4");
    x.sheet(0, 16, 5);
    x.undo();
    due("tape", x.count(6), 7);
    due("is read whole", x.text(0), -1);
    due("lines", x.of(0, 7), 2);
    due("sheet", x.copy(0, 5, 0, 5, 0), 0);
    x.undo();
    due("the text is of the image", x.of(0, 7), 0);
    due("the tape is empty still", x.count(6), 0);
  }

  /** All of a full world comes back: seven boxes, fourteen seams, twenty events. */
  private static void fullWorld() {
    alike("full", ImageEdgesTest::brim, x -> {
      x.image();
      for (int i = 0; i < 7; i++) {
        x.set(i, 101 * (9 - i));
        x.time(i, 9 - i);
      }
      for (int i = 0; i < 14; i++) {
        x.say(i, 5, 5);
      }
      x.guess(1);
      sheet(x, 3, 6, 5, 4, 3, 2, 1, 0);
      x.order(3);
      x.sheet(3, 0, 0);
      x.step(7);
      return x.undo();
    }, x -> {
      x.image();
      return x.undo();
    });
  }

  private static StepWorld brim() {
    StepWorld x = full();
    for (int i = 0; i < 20; i++) {
      x.event(1 + i % 10, i % 7, i % 10);
    }
    for (int i = 0; i < 14; i++) {
      x.say(i, i % 3, 9 - i % 4);
    }
    text(x, 0, "p=p+a;u=b");
    text(x, 6, "q=q-b;v=a*a");
    x.time(6, 9);
    x.guess(2);
    x.step(4);
    return x;
  }

  /** What comes back is the same whatever was made since: more, fewer or other boxes, seams and events. */
  private static void undoIsAll() {
    alike("rich", Edge::rich, x -> {
      x.image();
      x.box(4, 0, 0);
      x.seam(40, 1);
      x.seam(40, 11);
      x.event(9, 4, 9);
      x.event(5, 3, 9);
      x.wipe();
      text(x, 0, "p=0;u=0;v=0");
      x.in(2, 0, 9);
      x.step(20);
      x.undo();
      return feed(x, "p=p+7;q=a%3");
    }, x -> {
      x.image();
      return x.undo();
    });
    // Five HOURS are kept there, so one more can be taken back with none lost.
    alike("back instead", Edge::rich, x -> {
      x.step(1);
      x.set(0, 909);
      return x.back(1);
    }, x -> 0);
  }

  /** EVENTS of an image come back whole, though others took their numbers since; so do those that are tried beside. */
  private static void eventsComeBack() {
    StepWorld x = Edge.boxes(3);
    x.step(1);
    for (int i = 0; i < 20; i++) {
      x.event(2 + i / 3, i % 3, 1 + i % 9);
    }
    x.image();
    x.back(1);
    due("none", x.count(2), 0);
    for (int i = 0; i < 20; i++) {
      x.event(9, 2, 9);
    }
    due("undo", x.undo(), 1);
    due("twenty", x.count(2), 20);
    due("next", x.next(), 2);
    for (int hour = 2; hour < 8; hour++) {
      x.step(hour == 2 ? 2 : 1);
      for (int box = 0; box < 3; box++) {
        due("box " + box + " in hour " + hour, x.of(box, 1), 1 + (3 * (hour - 2) + box) % 9);
      }
    }
    StepWorld y = Edge.boxes(3);
    y.seam(20, 0);
    y.step(1);
    y.event(1, 0, 1);
    y.event(1, 1, 2);
    y.event(1, 2, 3);
    due("2 is 3", y.off(), 3);
    y.back(1);
    y.event(0, 2, 1);
    y.event(0, 2, 2);
    y.event(0, 1, 9);
    due("2 is 2", y.off(), 2);
  }

  private static void tearing() {
    StepWorld x = Edge.boxes(2);
    x.image();
    x.box(0, 0, 0);
    due("tear", x.tear(), 1);
    due("the world stays", x.count(0), 3);
    due("undo", x.undo(), NONE);
    due("the world stays", x.count(0), 3);
    x.image();
    x.box(0, 0, 0);
    due("a new image", x.undo(), 0);
    due("of three", x.count(0), 3);
  }

  private static void counts() {
    StepWorld x = brim();
    int[] counts = {7, 14, 20, 4, 0, -1, 0, 4, 10};
    for (int what = 0; what < 9; what++) {
      if (what != 5) {
        due("count " + what, x.count(what), counts[what]);
      }
    }
    int owes = 0;
    for (int i = 0; i < 14; i++) {
      owes += x.seamIs(i, 5);
    }
    due("owes of all", x.count(5), owes);
    feed(x, " ".repeat(80));
    due("a full tape", x.count(6), 80);
    x.step(50);
    due("six hours", x.count(7), 6);
  }

  /** Each finding counts for itself and for all. */
  private static void statusOfEach() {
    StepWorld x = new StepWorld();
    for (int which = -1; which < 7; which++) {
      due("none ever", x.status(which), 0);
    }
    due("no finding is none", x.status(-1), 0);
    int[] told = new int[8];
    due("1", x.whole(1), BEYOND);
    told[0]++;
    asTold(x, told);
    feed(x, " ".repeat(80));
    due("2", x.feed(0, 1), FULL);
    told[1]++;
    asTold(x, told);
    x.box(0, 0, 0);
    due("3", x.as(0, 1), KIND);
    told[2]++;
    asTold(x, told);
    due("4", x.next(), NONE);
    told[3]++;
    asTold(x, told);
    due("5", x.whole(3), STATE);
    told[4]++;
    asTold(x, told);
    due("6", x.order(0), MISSING);
    told[5]++;
    asTold(x, told);
    due("7", x.sheet(0, 8, -1), SIZE);
    told[6]++;
    asTold(x, told);
    due("4 again", x.undo(), NONE);
    told[3]++;
    asTold(x, told);
  }

  private static void asTold(StepWorld x, int[] told) {
    int all = 0;
    for (int which = 0; which < 7; which++) {
      due("told " + which, x.status(which), told[which]);
      all += told[which];
    }
    due("told in all", x.status(-1), all);
  }

  /** Its own finding is counted from then on, not in its answer. */
  private static void statusItself() {
    StepWorld x = new StepWorld();
    for (int i = 0; i < 5; i++) {
      due("told", x.status(0), i);
      due("all told", x.status(-1), i);
      due("another one", x.status(i % 2 == 0 ? 7 : -2), BEYOND);
    }
    due("MIN", x.status(Integer.MIN_VALUE), BEYOND);
    due("MAX", x.status(Integer.MAX_VALUE), BEYOND);
    due("told", x.status(0), 7);
    due("others", x.status(6), 0);
  }

  /** What was told ever is not taken back; answers of -1, 0 or a FAULT are no findings. */
  private static void statusStays() {
    StepWorld x = Edge.boxes(1);
    x.image();
    x.step(1);
    x.whole(1);
    x.back(1);
    due("not by back()", x.status(0), 1);
    x.whole(1);
    x.undo();
    due("not by undo()", x.status(0), 2);
    x.tear();
    due("not by tear()", x.status(0), 2);
    due("a fault", x.text(0), 0);
    due("a text", text(x, 0, "p=1"), -1);
    due("none torn", x.tear(), 0);
    due("not off", x.off(), 0);
    due("no ring", x.ring(0), 0);
    due("no more findings", x.status(-1), 2);
  }
}
