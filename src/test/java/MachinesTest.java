/** Promises 31 and 32: end, lay. */
public final class MachinesTest extends Due {
  public static void main(String[] args) {
    noBoxes();
    end();
    lay();
    layByOrder();
    close();
  }

  private static void noBoxes() {
    StepWorld x = new StepWorld();
    due("n 0", x.end(0, 0), BEYOND);
    due("n 4", x.end(4, 0), BEYOND);
    due("sheet 4", x.end(1, 4), BEYOND);
    due("sheet -1", x.end(1, -1), BEYOND);
    due("missing", x.end(1, 0), MISSING);
    x.sheet(0, 8, 0);
    due("nothing to do", x.end(3, 0), 0);
    due("nothing to lay", x.lay(3, -1), 0);
    due("no box", x.lay(3, 0), BEYOND);
    due("box -2", x.lay(3, -2), BEYOND);
    due("lay on 0", x.lay(0, -1), BEYOND);
    due("lay on 4", x.lay(4, -1), BEYOND);
  }

  private static void end() {
    StepWorld x = threeBoxes();
    sheet(x, 0, 0, 0);
    due("too few", x.end(2, 0), SIZE);
    sheet(x, 0, 0, 0, 0, 0);
    due("too many", x.end(2, 0), SIZE);
    sheet(x, 0, 0, 2, 0);
    due("machine 2 of 2", x.end(2, 0), BEYOND);
    x.sheet(1, 32, 3);
    x.write(1, 2, -1);
    due("machine -1", x.end(2, 1), BEYOND);
    due("machine 2 of 3", x.end(3, 0), 8);
    sheet(x, 0, 0, 0, 0);
    due("one machine", x.end(1, 0), 10);
    sheet(x, 0, 0, 0, 1);
    due("2 waits for 0", x.end(2, 0), 8);
    sheet(x, 0, 0, 1, 1);
    due("2 waits for 0, not for 1", x.end(2, 0), 8);
    x.time(1, 4);
    due("its machine is free at 4", x.end(2, 0), 9);
    x.time(1, 2);
    sheet(x, 1, 2, 0, 1);
    x.order(1);
    sheet(x, 0, 0, 0, 1);
    due("0 waits for 2, 1 for its machine", x.end(2, 0), 10);
    sheet(x, 0, 0, 1, 0);
    due("1 waits for none", x.end(2, 0), 8);
  }

  /** TIMES 3, 2, 5; 2 has what 0 gives, 0 has what 2 gives. */
  private static StepWorld threeBoxes() {
    StepWorld x = new StepWorld();
    for (int i = 0; i < 3; i++) {
      x.box(0, 0, 0);
    }
    x.time(0, 3);
    x.time(1, 2);
    x.time(2, 5);
    x.seam(0, 20);
    x.seam(20, 0);
    return x;
  }

  private static void lay() {
    StepWorld x = threeBoxes();
    due("on one", x.lay(1, -1), 10);
    due("0 on it", x.lay(1, 2), 0);
    due("on two", x.lay(2, -1), 8);
    due("0", x.lay(2, 0), 0);
    due("1", x.lay(2, 1), 0);
    due("2", x.lay(2, 2), 1);
    due("on three", x.lay(3, -1), 8);
    due("the third is not needed", x.lay(3, 2), 1);
    sheet(x, 0, 1, 1, 1);
    due("as a sheet has it", x.end(2, 0), 10);
    due("the laying is none of a sheet", x.lay(2, 0), 0);
    sheet(x, 0, 1, 0, 2);
    x.order(0);
    due("likewise by this order", x.end(3, 0), 8);
    x.seam(20, 10);
    x.seam(10, 21);
    due("2 waits for 1 and 0", x.lay(3, -1), 8);
    sheet(x, 0, 2, 1, 0);
    x.order(0);
    due("1 and 0 wait for 2", x.lay(3, -1), 8);
    due("no box", x.lay(3, 3), BEYOND);
    due("on 4", x.lay(4, 0), BEYOND);
    due("on -1", x.lay(-1, 0), BEYOND);
  }

  private static void layByOrder() {
    StepWorld x = threeBoxes();
    sheet(x, 1, 1, 2, 0);
    x.order(1);
    due("1, then 2, then 0", x.lay(2, -1), 8);
    due("0", x.lay(2, 0), 0);
    due("1", x.lay(2, 1), 0);
    due("2", x.lay(2, 2), 1);
    StepWorld y = new StepWorld();
    for (int i = 0; i < 7; i++) {
      y.box(0, 0, 0);
      y.time(i, 9);
    }
    due("seven alone", y.lay(3, -1), 27);
    due("0 0 0 1 1 1 2", y.lay(3, 6), 2);
    due("0 0 0 1 1 1 2", y.lay(3, 5), 1);
    due("0 0 0 1 1 1 2", y.lay(3, 2), 0);
    due("on one", y.lay(1, -1), 63);
    for (int i = 0; i < 6; i++) {
      y.seam(10 * i, 10 * i + 10);
    }
    due("a chain", y.lay(3, -1), 63);
    due("needs one", y.lay(3, 6), 0);
  }
}
