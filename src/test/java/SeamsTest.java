/** Promises 13 to 21: seam, seamIs, say, guess, guessed, hangs, ring, answers, solve. */
public final class SeamsTest extends Due {
  public static void main(String[] args) {
    seam();
    seamIs();
    say();
    guess();
    hangs();
    ring();
    answers();
    otherSeamsOfTheRing();
    size();
    close();
  }

  private static void seam() {
    StepWorld x = new StepWorld();
    for (int i = 0; i < 7; i++) {
      x.box(0, 0, 0);
    }
    due("from box 7", x.seam(70, 0), BEYOND);
    due("to box 7", x.seam(0, 70), BEYOND);
    due("out 2", x.seam(2, 0), BEYOND);
    due("in 2", x.seam(0, 2), BEYOND);
    due("from -1", x.seam(-1, 0), BEYOND);
    due("to -1", x.seam(0, -10), BEYOND);
    due("to itself", x.seam(0, 0), 0);
    due("that in has one", x.seam(10, 0), STATE);
    due("beyond ahead of state", x.seam(72, 0), BEYOND);
    int seams = 1;
    for (int to = 1; to < 14; to++) {
      due("seam " + seams, x.seam(61, 10 * (to / 2) + to % 2), seams);
      seams++;
    }
    due("each in has one", x.seam(0, 61), STATE);
    due("seams", x.count(1), 14);
  }

  private static void seamIs() {
    StepWorld x = new StepWorld();
    x.box(0, 305, 0);
    x.box(0, 0, 0);
    text(x, 0, "p=p+1;v=p*2");
    due("seam", x.seam(1, 11), 0);
    int[] first = {1, 11, 0, 0, 0, 0, 0, 9};
    for (int what = 0; what < 8; what++) {
      due("new: " + what, x.seamIs(0, what), first[what]);
    }
    sheet(x, 0, 1, 0);
    x.order(0);
    x.step(3);
    // Box 1 goes first and has LAST: 0, 8, 0; box 0's v is 8, 0, 2 then.
    int[] third = {1, 11, 2, 0, 8, 6, 0, 9};
    for (int what = 0; what < 8; what++) {
      due("behind three hours: " + what, x.seamIs(0, what), third[what]);
    }
    due("what 8", x.seamIs(0, 8), BEYOND);
    due("what -1", x.seamIs(0, -1), BEYOND);
    due("no seam", x.seamIs(1, 0), BEYOND);
    due("seam -1", x.seamIs(-1, 0), BEYOND);
  }

  private static void say() {
    StepWorld x = new StepWorld();
    x.whole(8);
    x.box(0, 0, 0);
    due("no seam yet", x.say(0, 0, 0), BEYOND);
    x.seam(0, 0);
    due("high at first", x.seamIs(0, 7), 7);
    due("say", x.say(0, 3, 3), 1);
    due("low", x.seamIs(0, 6), 3);
    due("high", x.seamIs(0, 7), 3);
    due("low above high", x.say(0, 4, 3), BEYOND);
    due("low -1", x.say(0, -1, 3), BEYOND);
    due("high 8", x.say(0, 0, 8), BEYOND);
    due("seam 1", x.say(1, 0, 1), BEYOND);
    due("low stays", x.seamIs(0, 6), 3);
    due("all", x.say(0, 0, 7), 1);
  }

  private static void guess() {
    StepWorld x = new StepWorld();
    x.box(0, 0, 0);
    text(x, 0, "p=p*2+1;u=p");
    x.seam(0, 0);
    x.step(3);
    // u was 1, 3, 7.
    due("hold", x.guessed(0), 7);
    due("line", x.guess(1), 0);
    due("by a line", x.guessed(0), 1);
    due("curve", x.guess(2), 1);
    due("by a curve", x.guessed(0), 3);
    due("the same", x.guess(2), 2);
    due("rule 3", x.guess(3), BEYOND);
    due("rule -1", x.guess(-1), BEYOND);
    due("rule stays", x.guess(0), 2);
    due("no seam", x.guessed(1), BEYOND);
    due("seam -1", x.guessed(-1), BEYOND);
  }

  private static void hangs() {
    StepWorld x = new StepWorld();
    for (int i = 0; i < 4; i++) {
      x.box(0, 0, 0);
    }
    x.seam(10, 0);
    x.seam(20, 1);
    due("without a line", x.hangs(0), 0);
    text(x, 0, "p=a+b;q=a");
    due("by lines for p and q", x.hangs(0), 0);
    text(x, 0, "u=a");
    due("by u", x.hangs(0), 2);
    text(x, 0, "v=1*(2-b)");
    due("by v", x.hangs(0), 4);
    text(x, 0, "u=a;v=b");
    due("by both", x.hangs(0), 6);
    text(x, 0, "u=a;u=b");
    due("by the line that counts", x.hangs(0), 4);
    text(x, 3, "u=a+b");
    due("without a seam", x.hangs(3), 0);
    x.seam(31, 30);
    due("on itself", x.hangs(3), 8);
    due("no box", x.hangs(4), BEYOND);
    due("box -1", x.hangs(-1), BEYOND);
  }

  private static void ring() {
    StepWorld x = new StepWorld();
    for (int i = 0; i < 6; i++) {
      x.box(0, 0, 0);
      text(x, i, "u=a+b");
    }
    x.seam(0, 10);
    x.seam(10, 20);
    due("a chain", x.ring(1), 0);
    x.seam(20, 0);
    due("a ring of three", x.ring(0), 7);
    due("of another of it", x.ring(2), 7);
    x.seam(20, 30);
    due("what hangs on it", x.ring(3), 0);
    x.seam(40, 11);
    due("on what it hangs", x.ring(4), 0);
    due("as it was", x.ring(1), 7);
    x.seam(51, 50);
    due("itself alone", x.ring(5), 32);
    due("no box", x.ring(6), BEYOND);
    due("box -1", x.ring(-1), BEYOND);
    text(x, 1, "u=b");
    due("broken", x.ring(0), 0);
  }

  private static void answers() {
    StepWorld x = new StepWorld();
    x.box(0, 304, 0);
    x.box(0, 0, 0);
    x.seam(0, 0);
    due("no ring", x.answers(0), NONE);
    due("no ring to solve", x.solve(0, 0), NONE);
    due("no box", x.answers(2), BEYOND);
    due("no box to solve", x.solve(2, 0), BEYOND);
    due("i -1", x.solve(0, -1), BEYOND);
    due("i -1 and no ring", x.solve(1, -1), BEYOND);
    text(x, 0, "u=a+1");
    due("none", x.answers(0), 0);
    due("none to solve", x.solve(0, 0), NONE);
    text(x, 0, "u=a");
    due("all", x.answers(0), 10);
    due("the first", x.solve(0, 0), 0);
    text(x, 0, "u=a*a");
    due("0, 1, 5, 6", x.answers(0), 4);
    text(x, 0, "u=p-a");
    due("twice a is 3", x.answers(0), 0);
    text(x, 0, "u=q-a");
    due("twice a is 4", x.answers(0), 2);
    due("2 ahead of 7", x.solve(0, 0), 2);
    due("not so many seams", x.solve(0, 1), NONE);
    text(x, 0, "u=a*3+b");
    x.in(0, 1, 4);
    due("twice a and 4", x.answers(0), 2);
    due("3 ahead of 8", x.solve(0, 0), 3);
    text(x, 0, "u=b");
    x.seam(11, 1);
    x.seam(1, 10);
    text(x, 1, "v=a+3");
    // Seam 2 brings v of box 0, which is q; the ring is one by its boxes all the same.
    due("a ring by another out", x.answers(1), 1);
    due("seam 1 is q and 3", x.solve(1, 1), 7);
    text(x, 0, "v=b*b");
    // Seam 1 is v of box 1 into b of box 0, seam 2 is v of box 0 into a of box 1, seam 0 is u (p) into a.
    due("b is b squared and 3: none", x.answers(1), 0);
    text(x, 1, "v=a+4");
    due("b is b squared and 4: 3 or 8", x.answers(1), 2);
    text(x, 1, "v=a+8");
    due("b is b squared and 8: 2, 4, 7 or 9", x.answers(0), 4);
    due("seam 0 of the first", x.solve(0, 0), 3);
    due("seam 1 of the first", x.solve(0, 1), 2);
    due("seam 2 of the first", x.solve(1, 2), 4);
    due("seam 3 of three", x.solve(1, 3), NONE);
    due("the first once more", x.solve(0, 1), 2);
    due("all of them once more", x.answers(1), 4);
    x.box(0, 0, 0);
    x.seam(0, 20);
    x.seam(20, 11);
    due("seams out of the ring and into it are not told", x.answers(1), 4);
    due("nor asked", x.solve(1, 3), NONE);
    due("nothing changes", x.of(0, 3), 0);
  }

  /** The open HOUR counts, and so does a SEAM into an IN that no LINE for an OUT names. */
  private static void otherSeamsOfTheRing() {
    StepWorld x = new StepWorld();
    x.whole(3);
    x.box(0, 0, 0);
    text(x, 0, "p=b;u=h-a");
    x.seam(0, 0);
    x.seam(1, 1);
    due("twice a is 0; b is q", x.answers(0), 1);
    due("b too is told", x.solve(0, 1), 0);
    x.step(1);
    x.set(0, 2);
    due("twice a is 1", x.solve(0, 0), 2);
    due("b is q", x.solve(0, 1), 2);
  }

  private static void size() {
    StepWorld x = new StepWorld();
    x.box(0, 0, 0);
    x.box(0, 0, 0);
    text(x, 0, "u=a");
    text(x, 1, "u=a");
    x.seam(0, 10);
    x.seam(10, 0);
    x.seam(1, 11);
    due("three seams", x.answers(0), 10);
    x.seam(11, 1);
    due("four seams", x.answers(0), SIZE);
    due("four seams to solve", x.solve(1, 0), SIZE);
    due("beyond ahead of size", x.solve(1, -1), BEYOND);
    due("size ahead of none", x.solve(1, 4), SIZE);
  }
}
