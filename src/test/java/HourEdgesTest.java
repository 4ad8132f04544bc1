/** HOURS at their bounds: the first and the last, those that are kept, EVENTS, TURNS, and THE BEST ORDER. */
public final class HourEdgesTest extends Edge {
  public static void main(String[] args) {
    orderOfOneAndAll();
    newBoxComesLast();
    firstHour();
    lastHour();
    keptSix();
    backAndOn();
    backTakesWhatCameBetween();
    shutBoxes();
    eventsOfOneHour();
    eventsAtTheEnds();
    eventsTakenBack();
    nextAtTheEnds();
    leftFirst();
    leftIsTakenBack();
    countingEdges();
    pairedEdges();
    firstTurnIsTakenBack();
    jumpEdges();
    turnsKnownAndGuessed();
    hourOfALine();
    offAtTheEnds();
    bestOfOneToFive();
    bestOfSeveral();
    close();
  }

  private static void orderOfOneAndAll() {
    StepWorld x = Edge.boxes(1);
    sheet(x, 0, 1);
    due("no row of one", x.order(0), BEYOND);
    sheet(x, 0, 0);
    due("a row of one", x.order(0), 1);
    due("at 0", x.at(0), 0);
    StepWorld y = Edge.boxes(7);
    sheet(y, 0, 6, 5, 4, 3, 2, 1, 0);
    due("a row of all", y.order(0), 1);
    for (int place = 0; place < 7; place++) {
      due("at " + place, y.at(place), 6 - place);
    }
    sheet(y, 0, 6, 5, 4, 3, 2, 1, 6);
    due("the first twice", y.order(0), BEYOND);
    sheet(y, 0, 6, 5, 4, 3, 2, 1, 7);
    due("one above", y.order(0), BEYOND);
    sheet(y, 0, 0, 0, 0, 0, 0, 0, 0);
    due("one alone", y.order(0), BEYOND);
    for (int place = 0; place < 7; place++) {
      due("stays at " + place, y.at(place), 6 - place);
    }
  }

  private static void newBoxComesLast() {
    StepWorld x = new StepWorld();
    for (int n = 1; n <= 7; n++) {
      x.box(0, 0, 0);
      due("last of " + n, x.at(n - 1), n - 1);
      x.sheet(0, 8, n);
      for (int i = 0; i < n; i++) {
        x.write(0, i, (i + 1) % n);
      }
      x.order(0);
      due("first of " + n, x.at(0), 1 % n);
      due("then last of " + n, x.at(n - 1), 0);
    }
  }

  /** In HOUR 0 nothing was before: each guess is 0. */
  private static void firstHour() {
    for (int rule = 0; rule < 3; rule++) {
      StepWorld x = Edge.boxes(2);
      x.guess(rule);
      x.set(1, 304);
      x.seam(10, 0);
      x.seam(11, 1);
      due("open", x.count(3), 0);
      due("one hour", x.step(1), 1);
      due("a", x.of(0, 3), 0);
      due("b", x.of(0, 4), 0);
      due("owes 3 and 4", x.count(5), 7);
    }
  }

  /** HOUR 998 is the last that can be done; 999 stays open. What goes on beside goes beyond it. */
  private static void lastHour() {
    StepWorld x = Edge.boxes(1);
    text(x, 0, "p=h");
    x.seam(0, 0);
    at(x, 998);
    due("h was 997", x.of(0, 1), 7);
    due("to 999", x.step(1), 999);
    due("h was 998", x.of(0, 1), 8);
    due("no more", x.step(1), FULL);
    due("no more", x.step(50), FULL);
    due("open", x.count(3), 999);
    due("off in 999", x.off(), 1);
    due("best in 999", x.best(-1), 1);
    sheet(x, 0, 9, 0, 1, 2);
    due("judged to 1002", x.judge(0, 0), 4);
    due("beside to 1029", x.beside(0, 30), x.count(5) + 30);
    feed(x, "p=h+(h-8)*(h-9)*(h-7)*5");
    due("the same by 10 in each hour", x.change(0, 30), NONE);
    feed(x, "p=h*1+(h-9)*(h-9)");
    due("changed in hour 1000", x.change(0, 2), 1000);
    feed(x, "p=h*1+(h-9)*(h-9)");
    due("not within one", x.change(0, 1), NONE);
    due("back to 993", x.back(6), 993);
    due("on again", x.step(6), 999);
    due("h was 998 again", x.of(0, 1), 8);
  }

  private static void keptSix() {
    StepWorld x = Edge.boxes(1);
    text(x, 0, "p=p+1");
    for (int i = 1; i <= 9; i++) {
      x.step(1);
      due("kept", x.count(7), Math.min(i, 6));
    }
    for (int n = 1; n <= 6; n++) {
      StepWorld y = Edge.boxes(1);
      text(y, 0, "p=p+1");
      y.step(50);
      due("kept of 50", y.count(7), 6);
      due("back " + n, y.back(n), 50 - n);
      due("p then", y.of(0, 1), (50 - n) % 10);
      due("kept then", y.count(7), 6 - n);
      due("one too many", n == 6 ? y.back(1) : y.back(7 - n), NONE);
    }
    for (int n = 1; n <= 50; n++) {
      StepWorld y = Edge.boxes(1);
      text(y, 0, "p=p+1");
      y.step(3);
      y.step(n);
      due("kept of 3 and " + n, y.count(7), Math.min(3 + n, 6));
      int most = Math.min(3 + n, 6);
      due("back to the first that is kept", y.back(most), 3 + n - most);
      due("p then", y.of(0, 1), (3 + n - most) % 10);
    }
  }

  /** Back one by one, and on by other ways: what is kept is always the last HOURS as they were done. */
  private static void backAndOn() {
    StepWorld x = Edge.boxes(1);
    text(x, 0, "p=p+1");
    x.step(8);
    for (int i = 1; i <= 6; i++) {
      due("back", x.back(1), 8 - i);
      due("p", x.of(0, 1), 8 - i);
    }
    due("none", x.back(1), NONE);
    x.set(0, 500);
    x.step(2);
    due("p is 7", x.of(0, 1), 7);
    due("two kept", x.count(7), 2);
    due("back 3 of 2", x.back(3), NONE);
    due("back 2 of 2", x.back(2), 2);
    due("set() came ahead of them", x.of(0, 1), 5);
    for (int round = 0; round < 20; round++) {
      x.step(5);
      x.back(3);
    }
    due("twenty times 2 on", x.count(3), 42);
    due("p", x.of(0, 1), 5);
    due("back", x.back(3), 39);
    due("p", x.of(0, 1), 2);
  }

  /** All is as it was ahead of the first of the HOURS: what was done between them and behind them is gone. */
  private static void backTakesWhatCameBetween() {
    StepWorld x = Edge.boxes(2);
    x.seam(0, 10);
    x.step(1);
    x.set(0, 909);
    x.in(0, 0, 9);
    x.time(0, 9);
    text(x, 0, "p=1");
    x.say(0, 5, 5);
    x.guess(2);
    x.event(5, 0, 5);
    x.seam(0, 11);
    x.box(3, 0, 0);
    sheet(x, 0, 2, 1, 0);
    x.order(0);
    due("back to 0", x.back(1), 0);
    int[] counts = {2, 1, 0, 0, 0, 0, 0, 0, 10};
    for (int what = 0; what < 9; what++) {
      due("count " + what, x.count(what), counts[what]);
    }
    int[] box = {0, 0, 0, 0, 0, 0, 0, 0, 1};
    for (int what = 0; what < 9; what++) {
      due("of " + what, x.of(0, what), box[what]);
    }
    due("said", x.seamIs(0, 6), 0);
    due("said", x.seamIs(0, 7), 9);
    due("rule", x.guess(0), 0);
    due("order", x.at(0), 0);
    due("no third place", x.at(2), BEYOND);
    due("the in is free again", x.in(1, 1, 3), 0);
    due("the sheet stays", x.copy(0, 0, 0, 0, 3), 3);
    StepWorld y = new StepWorld();
    y.step(2);
    y.whole(16);
    due("back, before whole()", y.back(1), 1);
    due("the whole is as it was", y.count(8), 10);
  }

  private static void shutBoxes() {
    for (int kind = 0; kind < 6; kind++) {
      StepWorld x = new StepWorld();
      x.step(1);
      x.box(kind, 0, 0);
      x.step(1);
      due("kind " + kind, x.back(1), kind == 4 ? STATE : 1);
    }
    StepWorld x = Edge.boxes(6);
    x.image();
    x.step(2);
    x.box(4, 0, 0);
    due("the last of seven", x.back(1), STATE);
    due("beyond first", x.back(0), BEYOND);
    due("hours are kept all the same", x.count(7), 2);
    due("an image goes back", x.undo(), 0);
    due("the shut box is gone", x.count(0), 6);
    x.step(1);
    due("back again", x.back(1), 0);
  }

  private static void eventsOfOneHour() {
    StepWorld x = Edge.boxes(2);
    for (int i = 0; i < 20; i++) {
      due("event " + i, x.event(2, i % 2, (i + 3) % 10), i);
    }
    x.step(2);
    due("not yet", x.of(0, 1) + x.of(1, 1), 0);
    x.step(1);
    due("event 18 was the last of 0", x.of(0, 1), 1);
    due("event 19 was the last of 1", x.of(1, 1), 2);
    x.set(0, 900);
    x.step(1);
    due("no more", x.of(0, 1), 9);
    StepWorld y = new StepWorld();
    y.box(2, 500, 6);
    text(y, 0, "p=p;q=p");
    y.event(0, 0, 0);
    y.step(1);
    due("an event of 0, then a turn, then a leap", y.of(0, 1), 6);
    due("q is worked out between", y.of(0, 2), 0);
    due("a leap", y.count(4), 1);
  }

  private static void eventsAtTheEnds() {
    StepWorld x = Edge.boxes(7);
    due("hour 0, box 6, the last number", x.event(0, 6, 9), 0);
    due("hour 999", x.event(999, 0, 4), 1);
    due("hour 998", x.event(998, 1, 5), 2);
    x.step(1);
    due("of box 6", x.of(6, 1), 9);
    due("hour 0 is past", x.event(0, 6, 9), BEYOND);
    due("hour 1 is open", x.event(1, 6, 0), 3);
    at(x, 999);
    due("event of 998 was done", x.of(1, 1), 5);
    due("event of 999 is still to come", x.of(0, 1), 0);
    due("and is the next", x.next(), 999);
    x.seam(0, 0);
    due("beside it is done", x.off(), 4);
  }

  /** EVENTS told behind an HOUR are gone if it is taken back; those told ahead of it happen again. */
  private static void eventsTakenBack() {
    StepWorld x = Edge.boxes(3);
    x.event(1, 2, 8);
    x.step(1);
    x.event(1, 1, 7);
    x.step(1);
    due("of 2", x.of(2, 1), 8);
    due("of 1", x.of(1, 1), 7);
    due("back", x.back(2), 0);
    due("one event", x.count(2), 1);
    x.event(0, 0, 6);
    x.step(2);
    due("of 0", x.of(0, 1), 6);
    due("not of 1", x.of(1, 1), 0);
    due("of 2 again", x.of(2, 1), 8);
    x.image();
    x.event(3, 1, 3);
    x.undo();
    x.step(3);
    due("gone with an image too", x.of(1, 1), 0);
  }

  private static void nextAtTheEnds() {
    StepWorld x = Edge.boxes(1);
    due("none", x.next(), NONE);
    x.event(999, 0, 1);
    due("the last hour", x.next(), 999);
    x.event(1, 0, 1);
    x.event(0, 0, 1);
    due("the first hour", x.next(), 0);
    x.step(1);
    due("the open one", x.next(), 1);
    x.step(1);
    due("past ones don't count", x.next(), 999);
    at(x, 999);
    due("the open one is the last", x.next(), 999);
    StepWorld y = Edge.boxes(1);
    y.event(0, 0, 1);
    due("hour 0 alone", y.next(), 0);
    y.step(1);
    due("none from now on", y.next(), NONE);
    y.back(1);
    due("taken back", y.next(), 0);
    y.event(7, 0, 1);
    due("hour 0 ahead of a later one told behind it", y.next(), 0);
    y.event(0, 0, 2);
    due("hour 0 ahead of a later one", y.next(), 0);
    y.step(1);
    y.event(1, 0, 1);
    y.event(9, 0, 1);
    due("hour 1 ahead of later ones on both sides", y.next(), 1);
  }

  /** The first HOUR, and in it the first by TURNS, then a ahead of b. */
  private static void leftFirst() {
    StepWorld x = Edge.boxes(3);
    x.seam(0, 21);
    x.seam(0, 20);
    x.seam(0, 11);
    x.seam(0, 10);
    for (int s = 0; s < 4; s++) {
      x.say(s, 1, 9);
    }
    x.step(1);
    due("hour", x.left(0), 0);
    due("box 1 ahead of box 2, a ahead of b", x.left(1), 3);
    x.back(1);
    due("nothing left", x.left(0), NONE);
    x.say(3, 0, 0);
    x.step(1);
    due("b of box 1", x.left(1), 2);
    x.back(1);
    x.say(3, 0, 0);
    x.say(2, 0, 0);
    sheet(x, 0, 2, 1, 0);
    x.order(0);
    x.step(1);
    due("a of box 2", x.left(1), 1);
    x.step(50);
    due("the first is kept", x.left(0), 0);
    x.say(1, 0, 9);
    due("though it says other now", x.left(1), 1);
  }

  private static void leftIsTakenBack() {
    StepWorld x = Edge.boxes(2);
    text(x, 0, "p=p+1");
    x.seam(0, 10);
    x.say(0, 0, 2);
    x.step(2);
    due("1 and 2 are within", x.left(0), NONE);
    x.image();
    x.step(1);
    due("3 is not", x.left(0), 2);
    due("seam 0", x.left(1), 0);
    due("what is asked beside doesn't count", x.off(), 0);
    x.back(1);
    due("taken back", x.left(0), NONE);
    due("nor does what goes on beside", x.beside(0, 30), 0);
    due("nothing has left", x.left(1), NONE);
    x.step(1);
    due("again", x.left(0), 2);
    x.undo();
    due("gone with the image", x.left(0), NONE);
  }

  private static void countingEdges() {
    for (int door = 0; door < 2; door++) {
      StepWorld x = new StepWorld();
      x.box(3, 0, 0);
      text(x, 0, "p=p+1;q=q+2");
      x.step(1);
      due("first", x.of(0, 1), 1);
      x.in(0, door, 1);
      x.step(1);
      due("another", x.of(0, 1), 2);
      x.step(1);
      due("the same", x.of(0, 1), 2);
      x.in(0, door, 0);
      x.step(1);
      due("back to 0 is another", x.of(0, 1), 3);
      x.in(0, door, 7);
      x.in(0, door, 0);
      x.step(1);
      due("there and back is none", x.of(0, 1), 3);
      due("q likewise", x.of(0, 2), 6);
      x.event(x.count(3), 0, 9);
      x.step(1);
      due("an event tells p all the same", x.of(0, 1), 9);
      x.set(0, 404);
      x.step(1);
      due("set() is no other IN", x.of(0, 1), 4);
    }
    StepWorld x = new StepWorld();
    x.box(3, 500, 0);
    x.box(0, 300, 0);
    text(x, 0, "u=a");
    x.seam(10, 0);
    x.step(1);
    due("its OUTS are worked out always", x.of(0, 5), 0);
    x.step(1);
    due("its OUTS are worked out always", x.of(0, 5), 3);
  }

  private static void pairedEdges() {
    for (int door = 0; door < 2; door++) {
      StepWorld x = new StepWorld();
      x.box(5, 0, 0);
      text(x, 0, "p=p+1;q=q+2");
      x.step(1);
      due("first", x.of(0, 1), 1);
      x.in(0, door, 1);
      x.step(1);
      due("one alone", x.of(0, 1), 1);
      x.in(0, 1 - door, 1);
      x.step(1);
      due("the other alone", x.of(0, 1), 1);
      x.in(0, 0, 2);
      x.in(0, 1, 0);
      x.step(1);
      due("both", x.of(0, 1), 2);
      x.step(1);
      due("none", x.of(0, 1), 2);
      due("q likewise", x.of(0, 2), 4);
      x.in(0, 0, 3);
      x.in(0, 1, 3);
      x.in(0, door, door == 0 ? 2 : 0);
      x.step(1);
      due("one went there and back", x.of(0, 1), 2);
    }
  }

  /** If the first TURN is taken back, the next is the first again; so it is with what the last TURN had. */
  private static void firstTurnIsTakenBack() {
    int[] kinds = {3, 5};
    for (int kind : kinds) {
      StepWorld x = new StepWorld();
      x.box(kind, 0, 0);
      text(x, 0, "p=p+1");
      x.image();
      x.step(1);
      x.back(1);
      due("p", x.of(0, 1), 0);
      x.step(1);
      due("the first again", x.of(0, 1), 1);
      x.undo();
      x.step(1);
      due("the first of the image", x.of(0, 1), 1);
      x.in(0, 0, 4);
      x.in(0, 1, 4);
      x.image();
      x.step(1);
      due("both are other", x.of(0, 1), 2);
      x.back(1);
      x.in(0, 0, 0);
      x.in(0, 1, 0);
      x.step(1);
      due("as at the last that stands", x.of(0, 1), 1);
      x.undo();
      x.step(1);
      due("other than at the last that stands", x.of(0, 1), 2);
      due("off beside", x.off(), 0);
      x.step(1);
      due("what is done beside is no turn", x.of(0, 1), 2);
    }
  }

  private static void jumpEdges() {
    for (int jump = 0; jump < 10; jump++) {
      StepWorld x = new StepWorld();
      x.box(2, 100, jump);
      text(x, 0, "p=p-1");
      x.step(1);
      due("leapt to " + jump, x.of(0, 1), jump);
      due("one leap", x.count(4), 1);
      x.step(1);
      due("then", x.of(0, 1), jump == 1 ? 1 : (jump + 9) % 10);
      due("leaps", x.count(4), jump == 1 ? 2 : 1);
    }
    for (int kind = 0; kind < 6; kind++) {
      StepWorld x = new StepWorld();
      x.box(kind, 0, 7);
      x.step(1);
      due("kind " + kind, x.of(0, 1), kind == 2 ? 7 : 0);
      due("its leaps", x.count(4), kind == 2 ? 1 : 0);
      due("its jump", x.of(0, 9), kind == 2 ? 7 : KIND);
    }
    StepWorld x = new StepWorld();
    for (int i = 0; i < 7; i++) {
      x.box(2, 0, 0);
    }
    x.set(0, 0);
    due("set() to 0 is no leap", x.count(4), 0);
    at(x, 999);
    due("leaps of all", x.count(4), 7 * 999);
    x.off();
    due("none beside", x.count(4), 7 * 999);
    x.back(6);
    due("taken back", x.count(4), 7 * 993);
    StepWorld y = new StepWorld();
    y.box(2, 300, 5);
    y.box(0, 0, 0);
    text(y, 0, "p=0");
    y.seam(0, 10);
    y.step(1);
    due("the next has what it leapt to", y.of(1, 3), 5);
    due("as at the end", y.count(5), 0);
  }

  /** From a BOX that had its TURN its OUT as it is then, though it be another one at the end of the HOUR. */
  private static void turnsKnownAndGuessed() {
    StepWorld x = Edge.boxes(3);
    x.set(2, 400);
    text(x, 0, "u=a");
    text(x, 2, "p=p+1");
    x.seam(20, 0);
    x.seam(0, 10);
    x.step(1);
    due("0 had a guess", x.of(0, 3), 0);
    due("1 had what 0 had", x.of(1, 3), 0);
    due("u of 0 is that", x.of(0, 5), 0);
    due("2 was 5 at the end", x.seamIs(0, 2), 5);
    due("so seam 0 was off by 5, seam 1 by none", 10 * x.seamIs(0, 5) + x.seamIs(1, 5), 50);
    sheet(x, 0, 2, 1, 0);
    x.order(0);
    x.step(1);
    due("0 has the new one", x.of(0, 3), 6);
    due("1 had a guess", x.of(1, 3), 0);
    due("seam 1 was off by 4", x.seamIs(1, 5), 4);
    due("seam 0 was not", x.seamIs(0, 5), 5);
  }

  /** h is the open HOUR: in a TURN, at the end of the HOUR, and when asked for; it goes on with the next. */
  private static void hourOfALine() {
    StepWorld x = new StepWorld();
    x.whole(16);
    x.box(0, 0, 0);
    x.box(0, 0, 0);
    text(x, 0, "p=h;q=h+1;u=h;v=h*2");
    x.image();
    x.seam(0, 10);
    x.seam(1, 11);
    x.seam(1, 0);
    due("u in hour 0", x.of(0, 5), 0);
    due("v in hour 0", x.of(0, 6), 0);
    for (int hour = 0; hour < 20; hour++) {
      due("open", x.count(3), hour);
      x.step(1);
      due("p", x.of(0, 1), hour % 16);
      due("q", x.of(0, 2), (hour + 1) % 16);
      due("what u was in the turn", x.of(1, 3), hour % 16);
      due("what v was in the turn", x.of(1, 4), hour * 2 % 16);
      due("what u was at the end", x.seamIs(0, 2), hour % 16);
      due("what v was at the end", x.seamIs(1, 2), hour * 2 % 16);
      due("u in the next", x.of(0, 5), (hour + 1) % 16);
      due("v in the next", x.of(0, 6), (hour + 1) * 2 % 16);
      due("owes nothing", x.seamIs(0, 5) + x.seamIs(1, 5), 0);
    }
    due("back", x.back(6), 14);
    due("u then", x.of(0, 5), 14);
    due("undo", x.undo(), 0);
    due("u then", x.of(0, 5), 0);
    due("an hour told", x.would(0, 2, 0, 0, 13), 13);
    due("is not the open one", x.of(0, 5), 0);
  }

  private static void offAtTheEnds() {
    due("nothing at all", new StepWorld().off(), 0);
    due("no seams", Edge.boxes(7).off(), 0);
    StepWorld x = new StepWorld();
    x.whole(16);
    for (int i = 0; i < 7; i++) {
      x.box(0, 808, 0);
    }
    for (int i = 0; i < 14; i++) {
      x.seam(60, 10 * (i / 2) + i % 2);
    }
    due("fourteen seams, each the farthest", x.off(), 14 * 8);
    x.step(1);
    due("as it was", x.count(5), 14 * 8);
    due("then none", x.off(), 0);
  }

  private static void bestOfOneToFive() {
    for (int n = 1; n <= 5; n++) {
      StepWorld x = Edge.boxes(n);
      due("not off", x.best(-1), 0);
      for (int i = 0; i < n; i++) {
        due("the first row", x.best(i), i);
        text(x, i, "p=a+1");
      }
      for (int i = 1; i < n; i++) {
        x.seam(10 * i, 10 * i - 10);
      }
      due("a chain down", x.best(-1), 0);
      for (int i = 0; i < n; i++) {
        due("the last row", x.best(i), n - 1 - i);
      }
      due("the order itself stays", x.at(0), 0);
      due("no such place", x.best(n), BEYOND);
    }
    StepWorld x = Edge.boxes(6);
    due("six", x.best(0), SIZE);
    x.box(0, 0, 0);
    due("seven", x.best(6), SIZE);
    due("none", new StepWorld().best(-1), NONE);
  }

  /** Of several rows the first, whatever THE ORDER is; EVENTS of the open HOUR count. */
  private static void bestOfSeveral() {
    StepWorld x = Edge.boxes(3);
    sheet(x, 0, 2, 1, 0);
    x.order(0);
    for (int i = 0; i < 3; i++) {
      due("the first of all", x.best(i), i);
    }
    x.seam(20, 0);
    due("none is off yet", x.best(0), 0);
    x.event(1, 2, 5);
    due("none is off yet", x.best(0), 0);
    x.step(1);
    due("box 2 ahead of box 0", 100 * x.best(0) + 10 * x.best(1) + x.best(2), 120);
    due("none is off so", x.best(-1), 0);
    x.seam(0, 20);
    due("0 gives 2 what it is: nothing", 100 * x.best(0) + 10 * x.best(1) + x.best(2), 120);
    due("the order stays", 100 * x.at(0) + 10 * x.at(1) + x.at(2), 210);
  }
}
