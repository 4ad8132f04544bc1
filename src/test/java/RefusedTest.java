import java.util.function.Supplier;
import java.util.function.ToIntFunction;

/** Each act that answers a finding changes nothing but status(); each one that only asks changes nothing at all. */
public final class RefusedTest extends Edge {
  private static final Supplier<StepWorld> RICH = Edge::rich;
  private static final Supplier<StepWorld> FULL_ONE = Edge::full;

  public static void main(String[] args) {
    boxes();
    seams();
    rings();
    hours();
    back();
    machines();
    besides();
    tapes();
    sheets();
    images();
    asks();
    close();
  }

  private static void beyond(String what, ToIntFunction<StepWorld> call) {
    refused(what, RICH, call, BEYOND);
  }

  private static void boxes() {
    beyond("whole 1", x -> x.whole(1));
    beyond("whole 17", x -> x.whole(17));
    refused("whole with boxes", RICH, x -> x.whole(9), STATE);
    refused("whole 17 with no boxes", Edge::fresh, x -> x.whole(17), BEYOND);
    beyond("box kind", x -> x.box(6, 0, 0));
    beyond("box states", x -> x.box(0, 10, 0));
    beyond("box jump", x -> x.box(2, 0, 10));
    refused("box 8", FULL_ONE, x -> x.box(0, 0, 0), FULL);
    beyond("as box", x -> x.as(4, 0));
    beyond("as kind", x -> x.as(0, 6));
    refused("as", RICH, x -> x.as(0, 1), KIND);
    beyond("of box", x -> x.of(4, 1));
    beyond("of what", x -> x.of(0, 10));
    refused("of jump", RICH, x -> x.of(0, 9), KIND);
    beyond("set box", x -> x.set(4, 0));
    beyond("set states", x -> x.set(0, 1000));
    beyond("set q", x -> x.set(1, 110));
    beyond("in box", x -> x.in(4, 0, 1));
    beyond("in door", x -> x.in(2, 2, 1));
    beyond("in v", x -> x.in(2, 0, 10));
    refused("in with a seam", RICH, x -> x.in(2, 1, 1), STATE);
    beyond("time box", x -> x.time(4, 2));
    beyond("time 0", x -> x.time(0, 0));
    beyond("time 10", x -> x.time(0, 10));
    beyond("feed 0", x -> x.feed('p', 0));
    beyond("feed 5", x -> x.feed('p', 5));
    beyond("text box", x -> x.text(4));
    beyond("would box", x -> x.would(4, 0, 0, 0, 0));
    beyond("would what", x -> x.would(0, 4, 0, 0, 0));
    beyond("would states", x -> x.would(0, 0, 10, 0, 0));
    beyond("would ins", x -> x.would(0, 0, 0, 1000, 0));
    beyond("would hour", x -> x.would(0, 0, 0, 0, 1000));
    Supplier<StepWorld> long77 = () -> {
      StepWorld x = boxesWithTape(77);
      x.box(0, 0, 0);
      return x;
    };
    refused("feed 4 behind 77", long77, x -> x.feed(0x2B312B31, 4), FULL);
  }

  /** A TAPE of so many bytes: p=1+1+1.. */
  private static StepWorld boxesWithTape(int bytes) {
    StepWorld x = Edge.boxes(1);
    feed(x, ("p=1" + "+1".repeat(40)).substring(0, bytes));
    return x;
  }

  private static void seams() {
    beyond("seam from box", x -> x.seam(40, 1));
    beyond("seam from out", x -> x.seam(2, 1));
    beyond("seam to box", x -> x.seam(0, 40));
    beyond("seam to in", x -> x.seam(0, 2));
    refused("seam to an in with one", RICH, x -> x.seam(0, 10), STATE);
    refused("a 15th seam", FULL_ONE, x -> x.seam(0, 61), STATE);
    beyond("seamIs seam", x -> x.seamIs(5, 0));
    beyond("seamIs what", x -> x.seamIs(0, 8));
    beyond("say seam", x -> x.say(5, 0, 1));
    beyond("say low", x -> x.say(0, -1, 1));
    beyond("say high", x -> x.say(0, 1, 10));
    beyond("say low above high", x -> x.say(0, 6, 5));
    beyond("guess", x -> x.guess(3));
    beyond("guessed", x -> x.guessed(5));
    beyond("hangs", x -> x.hangs(4));
    beyond("ring", x -> x.ring(4));
  }

  private static void rings() {
    beyond("answers box", x -> x.answers(4));
    refused("answers without a ring", RICH, x -> x.answers(0), NONE);
    beyond("solve box", x -> x.solve(4, 0));
    beyond("solve i", x -> x.solve(2, -1));
    refused("solve without a ring", RICH, x -> x.solve(0, 0), NONE);
    refused("solve seam 1 of 1", RICH, x -> x.solve(2, 1), NONE);
    Supplier<StepWorld> none = () -> {
      StepWorld x = rich();
      x.wipe();
      text(x, 2, "u=b+1");
      return x;
    };
    refused("solve without an answer", none, x -> x.solve(2, 0), NONE);
    refused("answers of four seams", RefusedTest::fourSeams, x -> x.answers(0), SIZE);
    refused("solve of four seams", RefusedTest::fourSeams, x -> x.solve(0, 0), SIZE);
  }

  private static StepWorld fourSeams() {
    StepWorld x = Edge.boxes(2);
    text(x, 0, "u=a+b");
    text(x, 1, "u=a;v=b");
    x.seam(0, 10);
    x.seam(0, 11);
    x.seam(10, 0);
    x.seam(11, 1);
    return x;
  }

  private static void hours() {
    beyond("order sheet", x -> x.order(4));
    refused("order of a missing one", RICH, x -> x.order(3), MISSING);
    refused("order of 24", RICH, x -> x.order(2), SIZE);
    beyond("order with one twice", x -> x.order(1));
    beyond("at", x -> x.at(4));
    beyond("step 0", x -> x.step(0));
    beyond("step 51", x -> x.step(51));
    refused("step to 1000", () -> at(rich(), 990), x -> x.step(10), FULL);
    beyond("event hour", x -> x.event(4, 0, 1));
    beyond("event hour 1000", x -> x.event(1000, 0, 1));
    beyond("event box", x -> x.event(7, 4, 1));
    beyond("event v", x -> x.event(7, 0, 10));
    Supplier<StepWorld> events = () -> {
      StepWorld x = rich();
      for (int i = 3; i < 20; i++) {
        x.event(5 + i, i % 4, i % 10);
      }
      return x;
    };
    refused("event 20", events, x -> x.event(5, 0, 1), FULL);
    refused("next without one", () -> at(rich(), 9), x -> x.next(), NONE);
    beyond("left", x -> x.left(2));
    refused("left by none", FULL_ONE, x -> x.left(0), NONE);
    beyond("best", x -> x.best(4));
    refused("best of 7", FULL_ONE, x -> x.best(-1), SIZE);
    refused("best of none", Edge::fresh, x -> x.best(-1), NONE);
  }

  private static void back() {
    beyond("back 0", x -> x.back(0));
    beyond("back 7", x -> x.back(7));
    refused("back 6 of 5", RICH, x -> x.back(6), NONE);
    refused("back 1 of none", FULL_ONE, x -> x.back(1), NONE);
    Supplier<StepWorld> shut = () -> {
      StepWorld x = rich();
      x.box(4, 0, 0);
      return x;
    };
    refused("back with a shut box", shut, x -> x.back(1), STATE);
  }

  private static void machines() {
    beyond("end n", x -> x.end(4, 0));
    beyond("end sheet", x -> x.end(1, 4));
    refused("end of a missing one", RICH, x -> x.end(1, 3), MISSING);
    refused("end of 24", RICH, x -> x.end(1, 2), SIZE);
    beyond("end on machine 2 of 2", x -> x.end(2, 1));
    beyond("lay n", x -> x.lay(4, -1));
    beyond("lay box", x -> x.lay(3, 4));
  }

  private static void besides() {
    beyond("change box", x -> x.change(4, 1));
    beyond("change n", x -> x.change(0, 31));
    beyond("drift box", x -> x.drift(-1, 1));
    beyond("drift n", x -> x.drift(0, 0));
    beyond("judge seam", x -> x.judge(5, 0));
    beyond("judge sheet", x -> x.judge(0, 4));
    refused("judge of a missing one", RICH, x -> x.judge(0, 3), MISSING);
    beyond("beside rule", x -> x.beside(3, 1));
    beyond("beside n", x -> x.beside(0, 31));
  }

  /** With KIND, NONE and an answer THE TAPE is empty then; all else stays. */
  private static void tapes() {
    Supplier<StepWorld> noText = () -> {
      StepWorld x = rich();
      x.feed('+', 1);
      return x;
    };
    due("change by no text", noText.get().change(0, 9), KIND);
    due("drift by no text", noText.get().drift(0, 9), KIND);
    alike("change by no text", noText, x -> x.change(0, 9), StepWorld::wipe);
    alike("drift by no text", noText, x -> x.drift(0, 9), StepWorld::wipe);
    Supplier<StepWorld> sameText = () -> {
      StepWorld x = rich();
      x.wipe();
      feed(x, "u=q+p;p=1+p");
      return x;
    };
    due("change by the same", sameText.get().change(0, 30), NONE);
    due("drift by the same", sameText.get().drift(0, 30), NONE);
    alike("change by the same", sameText, x -> x.change(0, 30), StepWorld::wipe);
    alike("drift by the same", sameText, x -> x.drift(0, 30), StepWorld::wipe);
    due("change", rich().change(0, 30), 5);
    due("drift", rich().drift(0, 30), 0);
    alike("change", RICH, x -> x.change(0, 30), StepWorld::wipe);
    alike("drift", RICH, x -> x.drift(0, 30), StepWorld::wipe);
    due("text with a fault", noText.get().text(0), 12);
    alike("text with a fault", noText, x -> x.text(0), StepWorld::wipe);
  }

  private static void sheets() {
    beyond("sheet 4", x -> x.sheet(4, 8, 1));
    beyond("sheet bits", x -> x.sheet(0, 9, 1));
    refused("sheet of -1", RICH, x -> x.sheet(0, 8, -1), SIZE);
    beyond("sheet of 25", x -> x.sheet(0, 8, 25));
    refused("missing of -1", RICH, x -> x.sheet(0, 0, -1), SIZE);
    beyond("missing of 25", x -> x.sheet(0, 0, 25));
    beyond("write sheet", x -> x.write(4, 0, 1));
    refused("write to a missing one", RICH, x -> x.write(3, 0, 1), MISSING);
    beyond("write number -1", x -> x.write(0, -1, 1));
    beyond("write number 4", x -> x.write(0, 4, 1));
    beyond("copy sheet", x -> x.copy(4, 0, 0, 0, 1));
    beyond("copy to sheet", x -> x.copy(0, 0, -1, 0, 1));
    refused("copy from a missing one", RICH, x -> x.copy(3, 0, 0, 0, 1), MISSING);
    refused("copy to a missing one", RICH, x -> x.copy(0, 0, 3, 0, 1), MISSING);
    refused("copy to other bits", RICH, x -> x.copy(0, 0, 2, 0, 1), KIND);
    beyond("copy 3 from 2", x -> x.copy(0, 2, 1, 0, 3));
    beyond("copy 3 to 2", x -> x.copy(0, 0, 1, 2, 3));
    beyond("copy from -1", x -> x.copy(0, -1, 1, 0, 2));
    beyond("copy to -1", x -> x.copy(0, 0, 1, -1, 2));
    beyond("copy -1", x -> x.copy(0, 2, 1, 2, -1));
  }

  private static void images() {
    refused("undo without an image", FULL_ONE, StepWorld::undo, NONE);
    Supplier<StepWorld> torn = () -> {
      StepWorld x = rich();
      x.tear();
      return x;
    };
    refused("undo of what was torn", torn, StepWorld::undo, NONE);
    beyond("count -1", x -> x.count(-1));
    beyond("count 9", x -> x.count(9));
    beyond("status -2", x -> x.status(-2));
    beyond("status 7", x -> x.status(7));
  }

  /** In rich() HOUR 5 is open; THE ORDER is 3, 0, 1, 2; TIMES are 1, 4, 1, 9. */
  private static void asks() {
    quiet("as", RICH, x -> x.as(1, 1), 1);
    quiet("of", RICH, x -> x.of(0, 1), 6);
    quiet("would", RICH, x -> x.would(0, 2, 909, 0, 0), 8);
    quiet("seamIs", RICH, x -> x.seamIs(4, 1), 31);
    quiet("guessed", FULL_ONE, x -> x.guessed(13), 0);
    quiet("hangs", RICH, x -> x.hangs(2), 4);
    quiet("ring", RICH, x -> x.ring(2), 4);
    // u of box 2 is a + b, and a is 6: b is never 6 more than itself.
    quiet("answers", RICH, x -> x.answers(2), 0);
    Supplier<StepWorld> answered = () -> {
      StepWorld x = rich();
      x.in(2, 0, 0);
      return x;
    };
    quiet("ten answers", answered, x -> x.answers(2), 10);
    quiet("solve", answered, x -> x.solve(2, 0), 0);
    quiet("at", RICH, x -> x.at(0), 3);
    quiet("next", RICH, StepWorld::next, 6);
    quiet("off", FULL_ONE, StepWorld::off, 0);
    quiet("end", RICH, x -> x.end(3, 1), 13);
    quiet("lay", RICH, x -> x.lay(1, -1), 15);
    quiet("judge", RefusedTest::judged, x -> x.judge(13, 3), 24);
    quiet("beside", RICH, x -> x.beside(0, 0), rich().count(5));
    quiet("best", RefusedTest::fiveBoxes, x -> x.best(-1), 0);
    quiet("best at", RefusedTest::fiveBoxes, x -> x.best(4), 4);
    quiet("left", RICH, x -> x.left(1), 3);
    quiet("count", RICH, x -> x.count(7), 5);
    quiet("status", RICH, x -> x.status(-1), 0);
    quiet("wipe of an empty one", FULL_ONE, StepWorld::wipe, 0);
    quiet("tear of nothing", FULL_ONE, StepWorld::tear, 0);
  }

  private static StepWorld judged() {
    StepWorld x = full();
    x.sheet(3, 32, 24);
    return x;
  }

  private static StepWorld fiveBoxes() {
    StepWorld x = Edge.boxes(5);
    for (int i = 1; i < 5; i++) {
      text(x, i, "p=a+1");
      x.seam(10 * i - 10, 10 * i);
    }
    x.event(0, 0, 3);
    return x;
  }
}
