import java.lang.reflect.InvocationTargetException;
import java.lang.reflect.Method;
import java.util.Arrays;
import java.util.HashMap;
import java.util.Map;
import java.util.Random;

/** Runs of calls, drawn from fixed seeds, on StepWorld and on the plain second reading of the document. */
public final class OracleTest {
  private static final int RUNS = 1500;
  private static final int CALLS = 512;
  private static final String[] NAMES = {
    "whole", "box", "as", "of", "of", "of", "set", "in", "in", "time", "feed", "text", "text", "text", "text", "wipe",
    "would", "would", "seam", "seam", "seam", "seam", "seamIs", "seamIs", "seamIs", "say", "guess", "guessed", "hangs",
    "ring", "answers", "solve", "order", "at", "step", "step", "step", "step", "step", "back", "back", "event", "event",
    "next", "left", "left", "off", "off", "best", "end", "lay", "change", "change", "drift", "drift", "judge", "judge",
    "beside", "beside", "sheet", "sheet", "write", "write", "write", "copy", "image", "undo", "tear", "count", "count",
    "count", "status"};
  private static final int[] EDGES = {-1, Integer.MIN_VALUE, Integer.MAX_VALUE, -7, 100, 1000, 1 << 30, 24, 25};

  private static final Map<String, Method> METHODS = new HashMap<>();

  public static void main(String[] args) throws IllegalAccessException, InvocationTargetException {
    for (Method m : StepWorld.class.getDeclaredMethods()) {
      METHODS.put(m.getName(), m);
    }
    int runs = args.length > 0 ? Integer.parseInt(args[0]) : RUNS;
    int base = args.length > 1 ? Integer.parseInt(args[1]) : 0;
    for (int seed = base; seed < base + runs; seed++) {
      run(seed);
    }
    Due.close();
  }

  private static void run(int seed) throws IllegalAccessException, InvocationTargetException {
    Random r = new Random(seed);
    StepWorld x = new StepWorld();
    Oracle o = new Oracle();
    int boxes = 1 + r.nextInt(7);
    int[] wholes = {2, 3, 4, 5, 7, 10, 16};
    Draw d = new Draw(r, o, boxes);
    if (r.nextInt(6) > 0) {
      both(seed, x, o, "whole", wholes[r.nextInt(wholes.length)]);
    }
    int made = r.nextInt(8) > 0 ? furnish(seed, x, o, d) : 0;
    for (int i = 1 + made; i < CALLS; i++) {
      String name = NAMES[r.nextInt(NAMES.length)];
      if (name.equals("box") && o.now.boxes.size() >= boxes && r.nextInt(8) > 0) {
        continue;
      }
      if (name.equals("text") || name.equals("change") || name.equals("drift")) {
        i += tape(seed, x, o, d.text());
      }
      if ((name.equals("undo") || name.equals("tear")) && r.nextInt(3) > 0) {
        continue;
      }
      if (name.equals("order") || name.equals("end") || name.equals("judge")) {
        i += fill(seed, x, o, d, name);
      }
      if (!both(seed, x, o, name, d.arguments(name, METHODS.get(name).getParameterCount()))) {
        return;
      }
    }
  }

  /** Makes boxes with texts and seams ahead of the drawn calls: how many calls that took. */
  private static int furnish(int seed, StepWorld x, Oracle o, Draw d) throws IllegalAccessException, InvocationTargetException {
    int calls = 0;
    for (int i = 0; i < d.boxes; i++) {
      both(seed, x, o, "box", d.drawn("box"));
      calls++;
    }
    for (int i = 0; i < d.boxes; i++) {
      calls += tape(seed, x, o, d.text()) + 1;
      both(seed, x, o, "text", i);
    }
    int seams = d.r.nextInt(3 * d.boxes + 1);
    for (int i = 0; i < seams; i++) {
      both(seed, x, o, "seam", d.drawn("seam"));
      calls++;
    }
    return calls;
  }

  private static int tape(int seed, StepWorld x, Oracle o, String text) throws IllegalAccessException, InvocationTargetException {
    int calls = 0;
    if (o.tape.length() > 4) {
      both(seed, x, o, "wipe");
      calls++;
    }
    for (int i = 0; i < text.length(); i += 4) {
      int n = Math.min(4, text.length() - i);
      int bytes = 0;
      for (int k = 0; k < n; k++) {
        bytes = bytes << 8 | text.charAt(i + k) & 255;
      }
      both(seed, x, o, "feed", bytes, n);
      calls++;
    }
    return calls;
  }

  /** Gives sheet 0 what an order, a laying or a record may be. */
  private static int fill(int seed, StepWorld x, Oracle o, Draw d, String name) throws IllegalAccessException, InvocationTargetException {
    if (d.r.nextInt(4) == 0) {
      return 0;
    }
    int[] row = d.row(name);
    both(seed, x, o, "sheet", 0, new int[] {8, 16, 32}[d.r.nextInt(3)], row.length);
    for (int i = 0; i < row.length; i++) {
      both(seed, x, o, "write", 0, i, row[i]);
    }
    return row.length + 1;
  }

  private static boolean both(int seed, StepWorld x, Oracle o, String name, int... g) throws IllegalAccessException, InvocationTargetException {
    Object[] boxed = new Object[g.length];
    for (int i = 0; i < g.length; i++) {
      boxed[i] = g[i];
    }
    int got = (Integer) METHODS.get(name).invoke(x, boxed);
    int want = o.call(name, g);
    Due.due("seed " + seed + ": " + name + Arrays.toString(g), got, want);
    return got == want;
  }

  /** Draws arguments, mostly such that the call is answered. */
  private static final class Draw {
    final Random r;
    final Oracle o;
    final int boxes;

    Draw(Random r, Oracle o, int boxes) {
      this.r = r;
      this.o = o;
      this.boxes = boxes;
    }

    int number() {
      return r.nextInt(o.now.m);
    }

    int pair() {
      return 100 * number() + number();
    }

    int end() {
      return 10 * box() + r.nextInt(2);
    }

    int box() {
      return r.nextInt(Math.max(1, o.now.boxes.size()));
    }

    int seam() {
      return r.nextInt(Math.max(1, o.now.seams.size()));
    }

    int[] arguments(String name, int n) {
      int[] g = drawn(name);
      if (g.length != n) {
        throw new IllegalStateException(name);
      }
      if (n > 0 && r.nextInt(12) == 0) {
        g[r.nextInt(n)] = r.nextBoolean() ? EDGES[r.nextInt(EDGES.length)] : r.nextInt(20) - 4;
      }
      return g;
    }

    int[] drawn(String name) {
      switch (name) {
        case "whole": return new int[] {2 + r.nextInt(15)};
        case "box": return new int[] {r.nextInt(40) == 0 ? 4 : new int[] {0, 1, 2, 3, 5}[r.nextInt(5)], pair(), number()};
        case "as": return new int[] {box(), r.nextInt(6)};
        case "of": return new int[] {box(), r.nextInt(10)};
        case "set": return new int[] {box(), pair()};
        case "in": return new int[] {box(), r.nextInt(2), number()};
        case "time": return new int[] {box(), 1 + r.nextInt(9)};
        case "feed": return new int[] {r.nextInt(), r.nextInt(10) > 0 ? 1 : 1 + r.nextInt(4)};
        case "text": case "hangs": case "ring": case "answers": return new int[] {box()};
        case "would": return new int[] {box(), r.nextInt(4), pair(), pair(), r.nextInt(1000)};
        case "seam": return new int[] {end(), end()};
        case "seamIs": return new int[] {seam(), r.nextInt(8)};
        case "say": return new int[] {seam(), number() / 2, number()};
        case "guess": return new int[] {r.nextInt(3)};
        case "guessed": return new int[] {seam()};
        case "solve": return new int[] {box(), r.nextInt(4)};
        case "order": return new int[] {r.nextInt(5) > 0 ? 0 : r.nextInt(4)};
        case "at": return new int[] {box()};
        case "step": return new int[] {r.nextInt(6) > 0 ? 1 + r.nextInt(3) : 1 + r.nextInt(50)};
        case "back": return new int[] {1 + r.nextInt(r.nextInt(3) > 0 ? 2 : 6)};
        case "event": return new int[] {o.now.hour + r.nextInt(r.nextInt(3) > 0 ? 4 : 40), box(), number()};
        case "left": return new int[] {r.nextInt(2)};
        case "best": return new int[] {r.nextInt(boxes + 1) - 1};
        case "end": return new int[] {1 + r.nextInt(3), r.nextInt(5) > 0 ? 0 : r.nextInt(4)};
        case "lay": return new int[] {1 + r.nextInt(3), r.nextInt(boxes + 1) - 1};
        case "change": case "drift": return new int[] {box(), 1 + r.nextInt(30)};
        case "judge": return new int[] {seam(), r.nextInt(5) > 0 ? 0 : r.nextInt(4)};
        case "beside": return new int[] {r.nextInt(3), r.nextInt(31)};
        case "sheet": return new int[] {r.nextInt(4), r.nextInt(5) == 0 ? 0 : 8 << r.nextInt(3), r.nextInt(25)};
        case "write": return new int[] {r.nextInt(4), r.nextInt(10), r.nextBoolean() ? r.nextInt() : r.nextInt(1000)};
        case "copy": return new int[] {r.nextInt(4), r.nextInt(8), r.nextInt(4), r.nextInt(8), r.nextInt(9)};
        case "count": return new int[] {r.nextInt(9)};
        case "status": return new int[] {r.nextInt(8) - 1};
        default: return new int[0];
      }
    }

    int[] row(String name) {
      int n = o.now.boxes.size();
      if (name.equals("judge")) {
        return record();
      }
      int[] row = new int[n];
      for (int i = 0; i < n; i++) {
        row[i] = name.equals("order") ? i : r.nextInt(3);
      }
      for (int i = n - 1; i > 0 && name.equals("order"); i--) {
        int j = r.nextInt(i + 1);
        int kept = row[i];
        row[i] = row[j];
        row[j] = kept;
      }
      return row;
    }

    /** What a seam will have, with a slip now and then. */
    private int[] record() {
      int[] row = new int[r.nextInt(8)];
      if (o.now.seams.isEmpty()) {
        return row;
      }
      int s = seam();
      Oracle.All beside = o.now.copy();
      for (int i = 0; i < row.length; i++) {
        beside.pass();
        row[i] = r.nextInt(10) == 0 ? number() : beside.seams.get(s)[2];
      }
      return row;
    }

    String text() {
      StringBuilder b = new StringBuilder();
      int lines = r.nextInt(12) == 0 ? 1 + r.nextInt(7) : 1 + r.nextInt(3);
      for (int i = 0; i < lines; i++) {
        b.append(i > 0 ? sign(";") : "").append(sign(pick("p", "q", "u", "u", "v", "v"))).append(sign("="));
        sum(b, 0);
      }
      if (r.nextInt(8) == 0 && b.length() > 0) {
        int i = r.nextInt(b.length());
        String junk = "pquvabh()+-*%;= 0123456789x" + (char) 200 + (char) 0;
        b.setCharAt(i, junk.charAt(r.nextInt(junk.length())));
      }
      if (r.nextInt(12) == 0) {
        b.setLength(r.nextInt(b.length() + 1));
      }
      if (r.nextInt(25) == 0) {
        b.append(' ');
      }
      return b.toString();
    }

    private String sign(String s) {
      return r.nextInt(10) == 0 ? " ".repeat(1 + r.nextInt(2)) + s : s;
    }

    private String pick(String... of) {
      return of[r.nextInt(of.length)];
    }

    private void sum(StringBuilder b, int depth) {
      value(b, depth);
      int more = r.nextInt(3);
      for (int i = 0; i < more; i++) {
        b.append(sign(pick("+", "-", "*", "%")));
        value(b, depth);
      }
    }

    private void value(StringBuilder b, int depth) {
      if (depth < 5 && r.nextInt(5) == 0) {
        b.append(sign("("));
        sum(b, depth + 1);
        b.append(sign(")"));
      } else {
        b.append(sign(pick("p", "q", "a", "b", "a", "b", "h", "0", "1", "2", "3", "12", "07", "99")));
      }
    }
  }
}
