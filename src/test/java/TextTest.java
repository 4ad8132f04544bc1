/** Promises 9 to 11, and what a TEXT is: feed, text, wipe. */
public final class TextTest extends Due {
  public static void main(String[] args) {
    feeding();
    wiping();
    reading();
    faults();
    limits();
    working();
    rests();
    close();
  }

  private static void feeding() {
    StepWorld x = new StepWorld();
    due("n 0", x.feed(0, 0), BEYOND);
    due("n 5", x.feed(0, 5), BEYOND);
    due("n -1", x.feed(0, -1), BEYOND);
    due("one byte", x.feed(0x41_00_70, 1), 1);
    due("the highest first", x.feed(0xFFFF_FF3D, 1), 2);
    due("two more", x.feed('9' << 8 | '9', 2), 4);
    x.box(0, 0, 0);
    due("p=99", x.text(0), -1);
    due("its p", x.would(0, 0, 0, 0, 0), 9);
    for (int i = 1; i <= 20; i++) {
      due("four bytes", x.feed(-1, 4), 4 * i);
    }
    due("full by one", x.feed(0, 1), FULL);
    due("beyond ahead of full", x.feed(0, 5), BEYOND);
    due("tape", x.count(6), 80);
    due("byte 255", x.text(0), 0);
    due("tape is empty", x.count(6), 0);
    for (int i = 0; i < 78; i++) {
      x.feed(' ', 1);
    }
    due("three don't fit", x.feed(0, 3), FULL);
    due("nor is a part of them taken", x.count(6), 78);
    due("two fit", x.feed(0, 2), 80);
  }

  private static void wiping() {
    StepWorld x = new StepWorld();
    feed(x, "p=1");
    due("wipe", x.wipe(), 3);
    due("wipe again", x.wipe(), 0);
    due("from the start", x.feed('p', 1), 1);
  }

  private static void reading() {
    StepWorld x = new StepWorld();
    feed(x, "p=1");
    due("no box", x.text(0), BEYOND);
    due("box -1", x.text(-1), BEYOND);
    due("the tape stays", x.count(6), 3);
    x.box(0, 200, 0);
    due("text", x.text(0), -1);
    due("the tape is empty", x.count(6), 0);
    due("lines", x.of(0, 7), 1);
    due("a fault", text(x, 0, "q=1;p=2;u=3;v=+"), 14);
    due("the tape is empty behind a fault", x.count(6), 0);
    due("the text stays", x.of(0, 7), 1);
    due("a fault at 0", text(x, 0, "h=1"), 0);
    due("the text stays", x.of(0, 7), 1);
    due("a fault with much open", text(x, 0, "p=q-(q-3*(q%)))"), 12);
    due("a text behind it", text(x, 0, "p=p+2"), -1);
    due("is worked out alone", x.would(0, 0, 100, 0, 0), 3);
    due("no fault is a finding", x.status(-1), 2);
    due("all of a text is new", text(x, 0, "q=2"), -1);
    due("p has no line", x.would(0, 0, 400, 0, 0), 4);
    due("four lines count", text(x, 0, "p=1;q=1;u=1;v=1;p=2;v=3"), -1);
    due("lines that count", x.of(0, 7), 4);
    due("the last p", x.would(0, 0, 0, 0, 0), 2);
    due("the last v", x.of(0, 6), 3);
  }

  private static void faults() {
    String[] texts = {
      "", "p", "p=", "p=1;", "p=(", "p=(1", "p=1+", "p=1*", "p=1 ", " ", "p=1; ", "p=(1) ",
      "x=1", "a=1", "h=1", "P=1", "=1", "p1", "p==1", "p=u", "p=v", "p=x", "p=;", "p=)", "p=-1", "p=1+-1",
      "p=123", "p=1 2", "p=12 3", "p=1p", "p=p1", "p=pq", "p=1(2)", "p=(1)2", "p=(1)(2)", "p=1)", "p=(1))",
      "p=(1;q=2)", "p=1;;q=2", "p=1,q=2", "p=1\tq", "p =1", " p = 1 ; q = 2", "p=1%%2", "p=()", "p/2", "p=1/2", "pq=1"};
    int[] faults = {
      0, 1, 2, 4, 3, 4, 4, 4, 4, 1, 5, 6,
      0, 0, 0, 0, 0, 1, 2, 2, 2, 2, 2, 2, 2, 4,
      4, 4, 5, 3, 3, 3, 3, 5, 5, 3, 5,
      4, 4, 3, 3, -1, -1, 4, 3, 1, 3, 1};
    due("as many", texts.length, faults.length);
    StepWorld x = new StepWorld();
    x.box(0, 0, 0);
    for (int i = 0; i < texts.length; i++) {
      due("'" + texts[i] + "'", text(x, 0, texts[i]), faults[i]);
    }
  }

  private static void limits() {
    StepWorld x = new StepWorld();
    x.box(0, 0, 0);
    due("6 lines", text(x, 0, "p=1;p=2;p=3;p=4;p=5;p=6"), -1);
    due("the last counts", x.would(0, 0, 0, 0, 0), 6);
    due("7 lines", text(x, 0, "p=1;p=2;p=3;p=4;p=5;p=6 ;p=7"), 24);
    due("4 open", text(x, 0, "p=((((1))))+((((2))))"), -1);
    due("their sum", x.would(0, 0, 0, 0, 0), 3);
    due("5 open", text(x, 0, "p=(((( (1)))))"), 7);
    due("80 bytes", text(x, 0, "p=1" + "+1".repeat(38) + " "), 80);
    due("79 bytes", text(x, 0, "p=1" + "+1".repeat(38)), -1);
    due("39 ones", x.would(0, 0, 0, 0, 0), 9);
    due("the deepest", text(x, 0, "u=1+2*(3+4*(5+6*(7+8*(9+1*2))))"), -1);
    due("its sum", x.of(0, 5), (1 + 2 * (3 + 4 * (5 + 6 * (7 + 8 * (9 + 1 * 2))))) % 10);
  }

  private static void working() {
    StepWorld x = new StepWorld();
    x.whole(16);
    x.box(0, 1305, 0);
    x.in(0, 0, 7);
    x.in(0, 1, 2);
    String[] sums = {
      "p-q-a", "p-(q-a)", "p-q*b", "(p-q)*b", "p%q*b", "p*b%q", "p+q%b", "a%(b-2)", "q-p", "p*p", "h+1", "15+15", "16+3"};
    int[] due = {1, 15, 3, 0, 6, 0, 14, 0, 8, 9, 1, 14, 3};
    for (int i = 0; i < sums.length; i++) {
      due("text", text(x, 0, "u=" + sums[i]), -1);
      due(sums[i], x.of(0, 5), due[i]);
    }
  }

  /** A NUMBER and h are numbers of a BOX too: they are taken by THE WHOLE ahead of all that is done with them. */
  private static void rests() {
    StepWorld x = new StepWorld();
    x.box(0, 700, 0);
    text(x, 0, "u=p%12;v=h%7");
    due("p % 12", x.of(0, 5), 1);
    due("h % 7 at 18", x.would(0, 3, 0, 0, 18), 1);
    text(x, 0, "u=p%10;v=25%6");
    due("p % 10", x.of(0, 5), 0);
    due("25 % 6", x.of(0, 6), 5);
  }
}
