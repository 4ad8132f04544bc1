/** Where two findings hold at once, the one is told that the document asks first. */
public final class FindingsOrderTest extends Edge {
  public static void main(String[] args) {
    boxes();
    seams();
    rings();
    orders();
    hours();
    best();
    machines();
    besides();
    sheets();
    numbers();
    close();
  }

  private static void boxes() {
    StepWorld x = full();
    due("whole: beyond, state", x.whole(17), BEYOND);
    due("whole: state", x.whole(16), STATE);
    due("box: kind, full", x.box(6, 0, 0), BEYOND);
    due("box: states, full", x.box(0, 1000, 0), BEYOND);
    due("box: jump, full", x.box(2, 0, 10), BEYOND);
    due("box: full", x.box(2, 0, 9), FULL);
    due("in: v, state", x.in(0, 0, 10), BEYOND);
    due("in: door, state", x.in(0, 2, 0), BEYOND);
    due("in: box, state", x.in(7, 0, 0), BEYOND);
    due("in: state", x.in(0, 0, 9), STATE);
    due("of: box, kind", x.of(7, 9), BEYOND);
    due("of: kind", x.of(6, 9), KIND);
    due("as: kind beyond, kind", x.as(0, 6), BEYOND);
    due("as: box, kind", x.as(7, 5), BEYOND);
    due("as: kind", x.as(6, 5), KIND);
    feed(x, " ".repeat(80));
    due("feed: n 5, full", x.feed(0, 5), BEYOND);
    due("feed: n 0, full", x.feed(0, 0), BEYOND);
    due("feed: n -1, full", x.feed(0, -1), BEYOND);
    due("feed: full", x.feed(0, 1), FULL);
  }

  private static void seams() {
    StepWorld x = full();
    due("seam: from, state", x.seam(70, 0), BEYOND);
    due("seam: out, state", x.seam(2, 0), BEYOND);
    due("seam: to, full", x.seam(0, 70), BEYOND);
    due("seam: in, full", x.seam(0, 2), BEYOND);
    for (int to = 0; to < 14; to++) {
      due("seam: state, full", x.seam(0, 10 * (to / 2) + to % 2), STATE);
    }
  }

  private static void rings() {
    StepWorld x = Edge.boxes(3);
    due("solve: i, no ring", x.solve(0, -1), BEYOND);
    due("solve: box, i", x.solve(3, -1), BEYOND);
    due("solve: box, not so many", x.solve(3, 9), BEYOND);
    text(x, 0, "u=a+b+1");
    text(x, 1, "u=a;v=b");
    x.seam(0, 10);
    x.seam(10, 0);
    x.seam(11, 11);
    due("three seams, no answer", x.answers(0), 0);
    due("solve: no answer", x.solve(0, 0), NONE);
    due("solve: no answer, not so many", x.solve(0, 3), NONE);
    due("solve: i, no answer", x.solve(0, -1), BEYOND);
    x.seam(11, 1);
    due("answers: size, though it would have none", x.answers(0), SIZE);
    due("solve: size, no answer", x.solve(0, 0), SIZE);
    due("solve: size, not so many", x.solve(0, 4), SIZE);
    due("solve: size, far from so many", x.solve(1, Integer.MAX_VALUE), SIZE);
    due("solve: i, size", x.solve(0, -1), BEYOND);
    due("solve: no ring beside one of four", x.solve(2, 0), NONE);
    due("solve: i, no ring", x.solve(2, -1), BEYOND);
  }

  private static void orders() {
    StepWorld x = Edge.boxes(3);
    due("order: beyond, with boxes", x.order(4), BEYOND);
    due("order: missing, size", x.order(0), MISSING);
    sheet(x, 0, 7, 7);
    due("order: size, no row", x.order(0), SIZE);
    sheet(x, 0, 7, 7, 7, 7);
    due("order: size, no row", x.order(0), SIZE);
    x.sheet(0, 8, 0);
    due("order: size of an empty one", x.order(0), SIZE);
    sheet(x, 0, 7, 7, 7);
    due("order: no row", x.order(0), BEYOND);
    x.sheet(0, 0, 0);
    due("order: missing again", x.order(0), MISSING);
  }

  private static void hours() {
    StepWorld x = at(Edge.boxes(1), 999);
    due("step: 51, full", x.step(51), BEYOND);
    due("step: 0, full", x.step(0), BEYOND);
    due("step: MAX, full", x.step(Integer.MAX_VALUE), BEYOND);
    due("step: full", x.step(1), FULL);
    for (int i = 0; i < 20; i++) {
      x.event(999, 0, 1);
    }
    due("event: hour, full", x.event(998, 0, 1), BEYOND);
    due("event: hour 1000, full", x.event(1000, 0, 1), BEYOND);
    due("event: box, full", x.event(999, 1, 1), BEYOND);
    due("event: v, full", x.event(999, 0, 10), BEYOND);
    due("event: full", x.event(999, 0, 1), FULL);
    StepWorld y = new StepWorld();
    due("back: 0, none", y.back(0), BEYOND);
    due("back: 7, none", y.back(7), BEYOND);
    due("back: none", y.back(1), NONE);
    y.box(4, 0, 0);
    due("back: 0, shut", y.back(0), BEYOND);
    due("back: 7, shut", y.back(7), BEYOND);
    due("back: shut, none", y.back(1), STATE);
    y.step(6);
    due("back: shut", y.back(6), STATE);
    due("left: beyond, none", y.left(2), BEYOND);
    due("left: beyond, none", y.left(-1), BEYOND);
    due("left: none", y.left(1), NONE);
  }

  private static void best() {
    StepWorld x = new StepWorld();
    due("best: beyond, none", x.best(0), BEYOND);
    due("best: beyond, none", x.best(-2), BEYOND);
    due("best: none", x.best(-1), NONE);
    StepWorld y = Edge.boxes(6);
    due("best: beyond, size", y.best(6), BEYOND);
    due("best: beyond, size", y.best(-2), BEYOND);
    due("best: size", y.best(5), SIZE);
    due("best: size", y.best(-1), SIZE);
  }

  private static void machines() {
    StepWorld x = Edge.boxes(2);
    due("end: n, missing", x.end(0, 0), BEYOND);
    due("end: n, missing", x.end(4, 0), BEYOND);
    due("end: sheet", x.end(1, 4), BEYOND);
    due("end: missing, size", x.end(1, 0), MISSING);
    sheet(x, 0, 5);
    due("end: n, size", x.end(4, 0), BEYOND);
    due("end: size, no machine", x.end(3, 0), SIZE);
    sheet(x, 0, 5, 5, 5);
    due("end: size, no machine", x.end(3, 0), SIZE);
    sheet(x, 0, 0, 5);
    due("end: no machine", x.end(3, 0), BEYOND);
    x.sheet(0, 0, 0);
    due("end: missing again", x.end(3, 0), MISSING);
  }

  private static void besides() {
    StepWorld x = Edge.boxes(1);
    feed(x, "p=");
    due("change: box, kind", x.change(1, 1), BEYOND);
    due("change: n, kind", x.change(0, 31), BEYOND);
    due("change: n, kind", x.change(0, 0), BEYOND);
    due("drift: box, kind", x.drift(-1, 1), BEYOND);
    due("drift: n, kind", x.drift(0, 31), BEYOND);
    due("drift: n, kind", x.drift(0, 0), BEYOND);
    due("the tape stays", x.count(6), 2);
    due("change: kind, none", x.change(0, 1), KIND);
    due("the tape is empty", x.count(6), 0);
    due("drift: kind, none", x.drift(0, 1), KIND);
    feed(x, "p=1");
    due("change: none", x.change(0, 1), NONE);
    feed(x, "p=1");
    due("drift: none", x.drift(0, 1), NONE);
    due("judge: seam, missing", x.judge(0, 0), BEYOND);
    x.seam(0, 0);
    due("judge: sheet", x.judge(0, 4), BEYOND);
    due("judge: seam, missing", x.judge(1, 0), BEYOND);
    due("judge: missing", x.judge(0, 0), MISSING);
  }

  private static void sheets() {
    StepWorld x = new StepWorld();
    due("sheet: sheet, size", x.sheet(4, 8, -1), BEYOND);
    due("sheet: bits, size", x.sheet(0, 9, -1), BEYOND);
    due("sheet: size", x.sheet(0, 8, -1), SIZE);
    due("sheet: size", x.sheet(0, 8, Integer.MIN_VALUE), SIZE);
    due("sheet: n above", x.sheet(0, 8, 25), BEYOND);
    due("sheet: sheet, n above", x.sheet(-1, 8, 25), BEYOND);
    due("write: sheet", x.write(4, 0, 0), BEYOND);
    due("write: missing, number", x.write(0, -1, 0), MISSING);
    due("write: missing, number", x.write(0, 24, 0), MISSING);
    x.sheet(0, 8, 0);
    due("write: number of an empty one", x.write(0, 0, 0), BEYOND);
  }

  private static void numbers() {
    StepWorld x = new StepWorld();
    due("copy: sheet, missing", x.copy(4, 0, 0, 0, 1), BEYOND);
    due("copy: to sheet, missing", x.copy(0, 0, 4, 0, 1), BEYOND);
    due("copy: both missing", x.copy(0, 0, 1, 0, 1), MISSING);
    x.sheet(0, 8, 4);
    x.sheet(1, 16, 4);
    due("copy: from missing, beyond", x.copy(2, -1, 0, 0, 1), MISSING);
    due("copy: to missing, beyond", x.copy(0, 0, 2, -1, 1), MISSING);
    due("copy: to missing, n", x.copy(0, 0, 2, 0, -1), MISSING);
    due("copy: from sheet, kind", x.copy(-1, 0, 1, 0, 1), BEYOND);
    due("copy: to sheet, kind", x.copy(0, 0, 4, 0, 1), BEYOND);
    due("copy: kind, from", x.copy(0, -1, 1, 0, 1), KIND);
    due("copy: kind, to", x.copy(0, 0, 1, -1, 1), KIND);
    due("copy: kind, n", x.copy(0, 0, 1, 0, -1), KIND);
    due("copy: kind, too many", x.copy(0, 0, 1, 0, 5), KIND);
    due("copy: kind with n 0", x.copy(0, 0, 1, 0, 0), KIND);
    x.sheet(1, 8, 3);
    due("copy: to has not so many", x.copy(0, 0, 1, 0, 4), BEYOND);
    due("copy: from has not so many", x.copy(1, 0, 0, 0, 4), BEYOND);
  }
}
