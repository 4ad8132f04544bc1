/** Promises 33 to 36: change, drift, judge, beside. */
public final class BesideTest extends Due {
  public static void main(String[] args) {
    changeAndDrift();
    tape();
    beyondTheLastHour();
    judge();
    beside();
    close();
  }

  private static StepWorld twoBoxes() {
    StepWorld x = new StepWorld();
    x.box(0, 100, 0);
    x.box(0, 0, 0);
    text(x, 0, "p=p+1");
    text(x, 1, "p=a");
    x.seam(10, 1);
    x.seam(0, 10);
    return x;
  }

  private static void changeAndDrift() {
    StepWorld x = twoBoxes();
    due("the same text", change(x, "p=p+1", 0, 30), NONE);
    due("another text", change(x, "p=p+2", 0, 30), 0);
    due("both seams: the least", drift(x, "p=p+2", 0, 30), 0);
    x.step(2);
    due("the hour is one of all", change(x, "p=p+2", 0, 30), 2);
    // h(h-1)(h-2)(h-3) is 0 by 10 in hours 2, 3 and 5 to 8; in hour 4 it is 24.
    due("hour 4", change(x, "p=p+1+h*(h-1)*(h-2)*(h-3)", 0, 30), 4);
    due("hour 4 is not among 2", change(x, "p=p+1+h*(h-1)*(h-2)*(h-3)", 0, 2), NONE);
    due("hour 4 is among 3", change(x, "p=p+1+h*(h-1)*(h-2)*(h-3)", 0, 3), 4);
    due("out u of 1 alone", drift(x, "u=p+1;p=a", 1, 3), 0);
    due("nothing changes", x.count(3), 2);
    due("nor its text", x.would(0, 0, 0, 0, 0), 1);
    StepWorld y = twoBoxes();
    sheet(y, 0, 1, 0);
    y.order(0);
    due("seam 1 ahead of seam 0", drift(y, "p=p+2", 0, 30), 1);
  }

  private static void tape() {
    StepWorld x = twoBoxes();
    feed(x, "p=p+2");
    due("no box", x.change(2, 3), BEYOND);
    due("box -1", x.drift(-1, 3), BEYOND);
    due("n 0", x.change(0, 0), BEYOND);
    due("n 31", x.change(0, 31), BEYOND);
    due("n 31", x.drift(0, 31), BEYOND);
    due("the tape stays", x.count(6), 5);
    due("change", x.change(0, 1), 0);
    due("the tape is empty", x.count(6), 0);
    due("no text", x.change(0, 1), KIND);
    due("no text", x.drift(0, 1), KIND);
    due("a text cut short", change(x, "p=", 0, 30), KIND);
    due("the tape is empty behind that", x.count(6), 0);
    due("one that differs in none", drift(x, "p=1+p", 0, 30), NONE);
    due("the tape is empty then", x.count(6), 0);
    StepWorld y = new StepWorld();
    y.box(0, 0, 0);
    due("without a seam", change(y, "p=1", 0, 30), NONE);
  }

  private static void beyondTheLastHour() {
    StepWorld x = new StepWorld();
    x.box(0, 0, 0);
    x.seam(0, 0);
    for (int i = 0; i < 19; i++) {
      x.step(50);
    }
    x.step(45);
    due("open", x.count(3), 995);
    x.event(999, 0, 4);
    // p is 0 till the event; then p * 2 is 8.
    due("in hour 999", change(x, "p=p*2", 0, 30), 999);
    x.step(4);
    due("not in hour 999", change(x, "p=p*(h-9)+p-p*h+p*9", 0, 30), NONE);
    due("in hour 1000", change(x, "p=p*1+(h-9)", 0, 30), 1000);
    due("judged in hour 999", x.off(), 4);
    due("behind 1028", x.beside(0, 30), 4);
  }

  private static void judge() {
    StepWorld x = twoBoxes();
    due("no sheet", x.judge(0, 4), BEYOND);
    due("sheet -1", x.judge(0, -1), BEYOND);
    due("no seam", x.judge(2, 0), BEYOND);
    due("seam -1", x.judge(-1, 0), BEYOND);
    due("missing", x.judge(0, 0), MISSING);
    x.sheet(0, 32, 0);
    due("no numbers", x.judge(0, 0), 0);
    sheet(x, 0, 2, 3, 4, 5);
    due("all are", x.judge(1, 0), 4);
    due("likewise", x.judge(0, 0), 4);
    sheet(x, 0, 2, 3, 5, 5);
    due("number 2 isn't", x.judge(1, 0), 2);
    sheet(x, 0, 1);
    due("the first isn't", x.judge(1, 0), 0);
    x.step(1);
    sheet(x, 0, 3, 4);
    due("from the open hour on", x.judge(1, 0), 2);
    x.sheet(0, 16, 24);
    for (int i = 0; i < 24; i++) {
      x.write(0, i, (i + 3) % 10);
    }
    due("24 numbers", x.judge(1, 0), 24);
    x.write(0, 23, 1000);
    due("above the whole", x.judge(1, 0), 23);
    due("nothing changes", x.count(3), 1);
  }

  private static void beside() {
    StepWorld x = new StepWorld();
    due("without seams", x.beside(0, 30), 0);
    x.box(0, 0, 0);
    text(x, 0, "p=p+1");
    x.seam(0, 0);
    x.step(2);
    due("now", x.beside(2, 0), 2);
    due("held", x.beside(0, 5), 7);
    due("by a line", x.beside(1, 30), 2);
    due("by a curve", x.beside(2, 30), 2);
    due("rule 3", x.beside(3, 0), BEYOND);
    due("rule -1", x.beside(-1, 0), BEYOND);
    due("n -1", x.beside(0, -1), BEYOND);
    due("n 31", x.beside(0, 31), BEYOND);
    due("the rule stays", x.guess(1), 0);
    due("nothing changes", x.count(5), 2);
    due("held, though the rule is another", x.beside(0, 5), 7);
    x.back(1);
    due("by a line from hour 1", x.beside(1, 5), 1);
    due("by a curve it is off once more", x.beside(2, 5), 2);
  }
}
