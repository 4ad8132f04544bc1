/** Promises 37 to 39: sheet, write, copy. What a sheet has is seen by judge(), order() and end(). */
public final class SheetsTest extends Due {
  public static void main(String[] args) {
    sheet();
    write();
    copy();
    copyFindings();
    close();
  }

  private static void sheet() {
    StepWorld x = new StepWorld();
    due("sheet 4", x.sheet(4, 8, 1), BEYOND);
    due("sheet -1", x.sheet(-1, 8, 1), BEYOND);
    int[] bits = {-8, 1, 7, 9, 24, 64, Integer.MIN_VALUE};
    for (int b : bits) {
      due("bits " + b, x.sheet(0, b, 1), BEYOND);
    }
    due("n -1", x.sheet(0, 8, -1), SIZE);
    due("bits ahead of n", x.sheet(0, 9, -1), BEYOND);
    due("n 25", x.sheet(0, 8, 25), BEYOND);
    due("still missing", x.write(0, 0, 0), MISSING);
    due("n 24", x.sheet(0, 8, 24), 24);
    due("number 23", x.write(0, 23, 1), 1);
    due("n 0", x.sheet(0, 16, 0), 0);
    due("it isn't missing", x.write(0, 0, 1), BEYOND);
    due("missing", x.sheet(0, 0, 24), 0);
    due("it is missing", x.write(0, 0, 1), MISSING);
    due("n is asked with no bits too", x.sheet(0, 0, -1), SIZE);
    due("n is asked with no bits too", x.sheet(0, 0, 25), BEYOND);
    x.box(0, 0, 0);
    x.seam(0, 0);
    x.sheet(1, 32, 3);
    x.write(1, 2, 9);
    due("two are 0", x.judge(0, 1), 2);
    x.sheet(1, 32, 3);
    due("all are 0 anew", x.judge(0, 1), 3);
  }

  private static void write() {
    StepWorld x = new StepWorld();
    x.box(0, 300, 0);
    x.seam(0, 0);
    due("sheet 4", x.write(4, 0, 0), BEYOND);
    due("sheet -1", x.write(-1, 0, 0), BEYOND);
    due("missing", x.write(0, 0, 0), MISSING);
    due("missing ahead of beyond", x.write(0, -1, 0), MISSING);
    x.sheet(0, 8, 2);
    due("number -1", x.write(0, -1, 0), BEYOND);
    due("number 2", x.write(0, 2, 0), BEYOND);
    due("write", x.write(0, 0, 3), 1);
    due("3", x.judge(0, 0), 1);
    due("the lowest 8 bits", x.write(0, 1, 256 * 77 + 3), 1);
    due("3, 3", x.judge(0, 0), 2);
    x.write(0, 1, 3 - 256);
    due("of a number below 0", x.judge(0, 0), 2);
    x.sheet(0, 16, 2);
    x.write(0, 0, 65536 + 3);
    x.write(0, 1, 256 + 3);
    due("the lowest 16 bits", x.judge(0, 0), 1);
    x.sheet(0, 32, 2);
    x.write(0, 0, 3);
    x.write(0, 1, 65536 + 3);
    due("all 32 bits", x.judge(0, 0), 1);
  }

  private static void copy() {
    StepWorld x = new StepWorld();
    x.box(0, 0, 0);
    text(x, 0, "p=p+1");
    x.seam(0, 0);
    sheet(x, 0, 2, 3, 4, 5, 6);
    sheet(x, 1, 1, 0, 0);
    due("two of them", x.copy(0, 0, 1, 1, 2), 2);
    due("1, 2, 3", x.judge(0, 1), 3);
    due("none of them", x.copy(0, 5, 1, 3, 0), 0);
    due("all as they were", x.copy(0, 0, 0, 1, 4), 4);
    x.write(0, 0, 1);
    due("1, 2, 3, 4, 5", x.judge(0, 0), 5);
    due("down by one", x.copy(0, 1, 0, 0, 4), 4);
    x.step(1);
    due("2, 3, 4, 5, 5", x.judge(0, 0), 4);
  }

  private static void copyFindings() {
    StepWorld x = new StepWorld();
    sheet(x, 0, 1, 2, 3);
    due("sheet 4", x.copy(4, 0, 0, 0, 1), BEYOND);
    due("to sheet 4", x.copy(0, 0, 4, 0, 1), BEYOND);
    due("sheet -1", x.copy(-1, 0, 0, 0, 1), BEYOND);
    due("from a missing one", x.copy(1, 0, 0, 0, 1), MISSING);
    due("to a missing one", x.copy(0, 0, 1, 0, 1), MISSING);
    due("missing ahead of beyond", x.copy(0, -1, 1, 0, 1), MISSING);
    x.sheet(1, 16, 3);
    due("other bits", x.copy(0, 0, 1, 0, 1), KIND);
    due("kind ahead of beyond", x.copy(0, 0, 1, 0, 9), KIND);
    x.sheet(1, 8, 2);
    due("from has not so many", x.copy(0, 2, 1, 0, 2), BEYOND);
    due("to has not so many", x.copy(0, 0, 1, 0, 3), BEYOND);
    due("to has not so many there", x.copy(0, 0, 1, 1, 2), BEYOND);
    due("from -1", x.copy(0, -1, 1, 0, 1), BEYOND);
    due("to -1", x.copy(0, 0, 1, -1, 1), BEYOND);
    due("n -1", x.copy(0, 1, 1, 1, -1), BEYOND);
    due("from behind the end", x.copy(0, 4, 1, 0, 0), BEYOND);
    due("far too many", x.copy(0, Integer.MAX_VALUE, 1, 0, Integer.MAX_VALUE), BEYOND);
    due("far too many to", x.copy(0, 0, 1, Integer.MAX_VALUE, 1), BEYOND);
    due("all", x.copy(0, 1, 1, 0, 2), 2);
  }
}
