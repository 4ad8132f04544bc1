import java.util.ArrayList;
import java.util.List;

/**
 * A second reading of the document, written for plainness alone: texts are read anew each time they are worked out,
 * all that may be tried is tried, and the state is copied whole. OracleTest sets it against StepWorld.
 */
final class Oracle {
  static final int BEYOND = -1000001;
  static final int FULL = -1000002;
  static final int KIND = -1000003;
  static final int NONE = -1000004;
  static final int STATE = -1000005;
  static final int MISSING = -1000006;
  static final int SIZE = -1000007;

  /** All that an image keeps. */
  static final class All {
    int m = 10;
    int hour = 0;
    int rule = 0;
    int leaps = 0;
    int leftHour = -1;
    int leftSeam = -1;
    // kind, p, q, a, b, jump, time, turned, a and b at the last turn
    List<int[]> boxes = new ArrayList<>();
    List<String> texts = new ArrayList<>();
    // from, to, last, before, earlier, owes, low, high
    List<int[]> seams = new ArrayList<>();
    // hour, box, number
    List<int[]> events = new ArrayList<>();
    List<Integer> order = new ArrayList<>();

    All copy() {
      All c = new All();
      c.m = m;
      c.hour = hour;
      c.rule = rule;
      c.leaps = leaps;
      c.leftHour = leftHour;
      c.leftSeam = leftSeam;
      for (int[] b : boxes) {
        c.boxes.add(b.clone());
      }
      c.texts.addAll(texts);
      for (int[] s : seams) {
        c.seams.add(s.clone());
      }
      for (int[] e : events) {
        c.events.add(e.clone());
      }
      c.order.addAll(order);
      return c;
    }

    int seamAt(int to) {
      for (int s = 0; s < seams.size(); s++) {
        if (seams.get(s)[1] == to) {
          return s;
        }
      }
      return -1;
    }

    String line(int box, char letter) {
      String found = null;
      for (String line : texts.get(box).split(";")) {
        String l = line.strip();
        if (!l.isEmpty() && l.charAt(0) == letter) {
          found = l.substring(l.indexOf('=') + 1);
        }
      }
      return found;
    }

    int work(int box, char letter) {
      int[] b = boxes.get(box);
      return work(box, letter, b[1], b[2], b[3], b[4], hour);
    }

    int work(int box, char letter, int p, int q, int a, int b, int h) {
      String line = line(box, letter);
      if (line == null) {
        return letter == 'p' || letter == 'u' ? p : q;
      }
      return new Sum(line, m, p, q, a, b, h).sum();
    }

    int out(int end) {
      return work(end / 10, end % 10 == 0 ? 'u' : 'v');
    }

    int guess(int seam) {
      int[] s = seams.get(seam);
      int g = rule == 0 ? s[2] : rule == 1 ? s[2] + s[2] - s[3] : 3 * s[2] - 3 * s[3] + s[4];
      return Math.floorMod(g, m);
    }

    int far(int x, int y) {
      int d = Math.abs(x - y);
      return Math.min(d, m - d);
    }

    /** One hour: how far all were off. */
    int pass() {
      for (int[] e : events) {
        if (e[0] == hour) {
          boxes.get(e[1])[1] = e[2];
        }
      }
      List<Integer> had = new ArrayList<>();
      for (int box : order) {
        turn(box, had);
        had.add(box);
      }
      int sum = 0;
      for (int[] s : seams) {
        int out = out(s[0]);
        int off = far(boxes.get(s[1] / 10)[3 + s[1] % 10], out);
        sum += off;
        s[5] = Math.min(99999, s[5] + off);
        s[4] = s[3];
        s[3] = s[2];
        s[2] = out;
      }
      hour++;
      return sum;
    }

    void turn(int box, List<Integer> had) {
      int[] b = boxes.get(box);
      for (int door = 0; door < 2; door++) {
        int s = seamAt(10 * box + door);
        if (s < 0) {
          continue;
        }
        int from = seams.get(s)[0];
        int v = had.contains(from / 10) ? out(from) : guess(s);
        b[3 + door] = v;
        if (leftHour == -1 && !(seams.get(s)[6] <= v && v <= seams.get(s)[7])) {
          leftHour = hour;
          leftSeam = s;
        }
      }
      int others = (b[3] != b[8] ? 1 : 0) + (b[4] != b[9] ? 1 : 0);
      boolean works = true;
      if (b[0] == 3 && b[7] == 1) {
        works = others >= 1;
      }
      if (b[0] == 5 && b[7] == 1) {
        works = others == 2;
      }
      if (works) {
        int p = work(box, 'p');
        int q = work(box, 'q');
        b[1] = p;
        b[2] = q;
      }
      b[7] = 1;
      b[8] = b[3];
      b[9] = b[4];
      if (b[0] == 2 && b[1] == 0) {
        b[1] = b[5];
        leaps++;
      }
    }
  }

  /** A sum, worked out as it is read; it is known to be one. */
  static final class Sum {
    final String s;
    final int[] by;
    final int m;
    int i = 0;

    Sum(String s, int m, int p, int q, int a, int b, int h) {
      this.s = s.replace(" ", "") + "$";
      this.m = m;
      by = new int[] {p, q, a, b, h};
    }

    int sum() {
      int r = one();
      while (s.charAt(i) == '+' || s.charAt(i) == '-') {
        boolean plus = s.charAt(i++) == '+';
        int y = one();
        r = Math.floorMod(plus ? r + y : r - y, m);
      }
      return r;
    }

    int one() {
      int r = value();
      while (s.charAt(i) == '*' || s.charAt(i) == '%') {
        boolean times = s.charAt(i++) == '*';
        int y = value();
        r = times ? r * y % m : y == 0 ? 0 : r % y;
      }
      return r;
    }

    int value() {
      char c = s.charAt(i++);
      if (c == '(') {
        int r = sum();
        i++;
        return r;
      }
      if (Character.isDigit(c)) {
        int n = c - '0';
        if (Character.isDigit(s.charAt(i))) {
          n = 10 * n + s.charAt(i++) - '0';
        }
        return n % m;
      }
      return by["pqabh".indexOf(c)] % m;
    }
  }

  /** Whether all of a text is a TEXT. */
  static final class Whole {
    final String s;
    int i = 0;

    Whole(String s) {
      this.s = s + "$";
    }

    static boolean isText(String s) {
      Whole w = new Whole(s);
      return w.text() && w.i == s.length();
    }

    char peek() {
      int j = i;
      while (s.charAt(j) == ' ') {
        j++;
      }
      return s.charAt(j);
    }

    char take() {
      while (s.charAt(i) == ' ') {
        i++;
      }
      return s.charAt(i++);
    }

    boolean text() {
      if (!line()) {
        return false;
      }
      int lines = 1;
      while (peek() == ';') {
        take();
        lines++;
        if (lines > 6 || !line()) {
          return false;
        }
      }
      return true;
    }

    boolean line() {
      return "pquv".indexOf(peek()) >= 0 && take() != '$' && peek() == '=' && take() == '=' && sum(0);
    }

    boolean sum(int open) {
      if (!one(open)) {
        return false;
      }
      while (peek() == '+' || peek() == '-') {
        take();
        if (!one(open)) {
          return false;
        }
      }
      return true;
    }

    boolean one(int open) {
      if (!value(open)) {
        return false;
      }
      while (peek() == '*' || peek() == '%') {
        take();
        if (!value(open)) {
          return false;
        }
      }
      return true;
    }

    boolean value(int open) {
      char c = peek();
      if (c == '(') {
        take();
        return open < 4 && sum(open + 1) && peek() == ')' && take() == ')';
      }
      if ("pqabh".indexOf(c) >= 0) {
        take();
        return true;
      }
      if (c < '0' || c > '9') {
        return false;
      }
      take();
      if (s.charAt(i) >= '0' && s.charAt(i) <= '9') {
        i++;
      }
      return true;
    }
  }

  /** Whether a TEXT begins so: one of these ends makes each beginning whole. */
  static boolean begins(String s) {
    String[] ends = {"", "1", "+1", "=1", "p=1"};
    for (String end : ends) {
      for (int k = 0; k <= 4; k++) {
        if (Whole.isText(s + end + "))))".substring(0, k))) {
          return true;
        }
      }
    }
    return false;
  }

  static int fault(String s) {
    for (int i = 0; i < s.length(); i++) {
      if (!begins(s.substring(0, i + 1))) {
        return i;
      }
    }
    return Whole.isText(s) ? -1 : s.length();
  }

  All now = new All();
  List<All> kept = new ArrayList<>();
  All image = null;
  String tape = "";
  int[][] sheets = new int[4][];
  int[] bits = new int[4];
  int[] told = new int[7];

  int call(String name, int[] g) {
    int r = answer(name, g);
    if (r <= BEYOND && r >= SIZE) {
      told[BEYOND - r]++;
    }
    return r;
  }

  private int answer(String name, int[] g) {
    switch (name) {
      case "whole": return whole(g[0]);
      case "box": return box(g[0], g[1], g[2]);
      case "as": return as(g[0], g[1]);
      case "of": return of(g[0], g[1]);
      case "set": return set(g[0], g[1]);
      case "in": return in(g[0], g[1], g[2]);
      case "time": return time(g[0], g[1]);
      case "feed": return feed(g[0], g[1]);
      case "text": return text(g[0]);
      case "wipe": return wipe();
      case "would": return would(g[0], g[1], g[2], g[3], g[4]);
      case "seam": return seam(g[0], g[1]);
      case "seamIs": return seamIs(g[0], g[1]);
      case "say": return say(g[0], g[1], g[2]);
      case "guess": return guess(g[0]);
      case "guessed": return isSeam(g[0]) ? now.guess(g[0]) : BEYOND;
      case "hangs": return isBox(g[0]) ? set(direct()[g[0]]) : BEYOND;
      case "ring": return isBox(g[0]) ? set(ring(g[0])) : BEYOND;
      case "answers": return answers(g[0]);
      case "solve": return solve(g[0], g[1]);
      case "order": return order(g[0]);
      case "at": return isBox(g[0]) ? now.order.get(g[0]) : BEYOND;
      case "step": return step(g[0]);
      case "back": return back(g[0]);
      case "event": return event(g[0], g[1], g[2]);
      case "next": return next();
      case "left": return g[0] != 0 && g[0] != 1 ? BEYOND : now.leftHour < 0 ? NONE : g[0] == 0 ? now.leftHour : now.leftSeam;
      case "off": return now.copy().pass();
      case "best": return best(g[0]);
      case "end": return end(g[0], g[1]);
      case "lay": return lay(g[0], g[1]);
      case "change": return change(g[0], g[1], 0);
      case "drift": return change(g[0], g[1], 1);
      case "judge": return judge(g[0], g[1]);
      case "beside": return beside(g[0], g[1]);
      case "sheet": return sheet(g[0], g[1], g[2]);
      case "write": return write(g[0], g[1], g[2]);
      case "copy": return copy(g[0], g[1], g[2], g[3], g[4]);
      case "image": image = now.copy(); return 1;
      case "undo": return undo();
      case "tear": return tear();
      case "count": return count(g[0]);
      case "status": return status(g[0]);
      default: throw new IllegalStateException(name);
    }
  }

  boolean isBox(int b) {
    return b >= 0 && b < now.boxes.size();
  }

  boolean isSeam(int s) {
    return s >= 0 && s < now.seams.size();
  }

  boolean isNumber(int v) {
    return v >= 0 && v < now.m;
  }

  boolean isPair(int v) {
    return v >= 0 && isNumber(v / 100) && isNumber(v % 100);
  }

  boolean isEnd(int v) {
    return v >= 0 && isBox(v / 10) && v % 10 < 2;
  }

  boolean isSheet(int s) {
    return s >= 0 && s < 4;
  }

  int whole(int m) {
    if (m < 2 || m > 16) {
      return BEYOND;
    }
    if (!now.boxes.isEmpty()) {
      return STATE;
    }
    int was = now.m;
    now.m = m;
    return was;
  }

  int box(int kind, int states, int jump) {
    if (kind < 0 || kind > 5 || !isPair(states) || !isNumber(jump)) {
      return BEYOND;
    }
    if (now.boxes.size() == 7) {
      return FULL;
    }
    int b = now.boxes.size();
    now.boxes.add(new int[] {kind, states / 100, states % 100, 0, 0, jump, 1, 0, 0, 0});
    now.texts.add("");
    now.order.add(b);
    return b;
  }

  int as(int box, int kind) {
    if (!isBox(box) || kind < 0 || kind > 5) {
      return BEYOND;
    }
    String[] kinds = {"0", "01", "012", "03", "04", "035"};
    return kinds[now.boxes.get(box)[0]].indexOf('0' + kind) >= 0 ? box : KIND;
  }

  int of(int box, int what) {
    if (!isBox(box) || what < 0 || what > 9) {
      return BEYOND;
    }
    int[] b = now.boxes.get(box);
    if (what < 5) {
      return b[what];
    }
    if (what < 7) {
      return now.out(10 * box + what - 5);
    }
    if (what == 7) {
      int n = 0;
      for (char c : "pquv".toCharArray()) {
        n += now.line(box, c) != null ? 1 : 0;
      }
      return n;
    }
    return what == 8 ? b[6] : b[0] == 2 ? b[5] : KIND;
  }

  int set(int box, int states) {
    if (!isBox(box) || !isPair(states)) {
      return BEYOND;
    }
    int[] b = now.boxes.get(box);
    int was = 100 * b[1] + b[2];
    b[1] = states / 100;
    b[2] = states % 100;
    return was;
  }

  int in(int box, int door, int v) {
    if (!isBox(box) || door < 0 || door > 1 || !isNumber(v)) {
      return BEYOND;
    }
    if (now.seamAt(10 * box + door) >= 0) {
      return STATE;
    }
    int was = now.boxes.get(box)[3 + door];
    now.boxes.get(box)[3 + door] = v;
    return was;
  }

  int time(int box, int v) {
    if (!isBox(box) || v < 1 || v > 9) {
      return BEYOND;
    }
    int was = now.boxes.get(box)[6];
    now.boxes.get(box)[6] = v;
    return was;
  }

  int feed(int bytes, int n) {
    if (n < 1 || n > 4) {
      return BEYOND;
    }
    if (tape.length() + n > 80) {
      return FULL;
    }
    StringBuilder b = new StringBuilder();
    for (int i = 0; i < n; i++) {
      b.append((char) (bytes >> 8 * i & 255));
    }
    tape += b.reverse();
    return tape.length();
  }

  int text(int box) {
    if (!isBox(box)) {
      return BEYOND;
    }
    String t = tape;
    tape = "";
    int f = fault(t);
    if (f < 0) {
      now.texts.set(box, t);
    }
    return f;
  }

  int wipe() {
    int n = tape.length();
    tape = "";
    return n;
  }

  int would(int box, int what, int states, int ins, int hour) {
    if (!isBox(box) || what < 0 || what > 3 || !isPair(states) || !isPair(ins) || hour < 0 || hour > 999) {
      return BEYOND;
    }
    return now.work(box, "pquv".charAt(what), states / 100, states % 100, ins / 100, ins % 100, hour);
  }

  int seam(int from, int to) {
    if (!isEnd(from) || !isEnd(to)) {
      return BEYOND;
    }
    if (now.seamAt(to) >= 0) {
      return STATE;
    }
    now.seams.add(new int[] {from, to, 0, 0, 0, 0, 0, now.m - 1});
    return now.seams.size() - 1;
  }

  int seamIs(int seam, int what) {
    return isSeam(seam) && what >= 0 && what <= 7 ? now.seams.get(seam)[what] : BEYOND;
  }

  int say(int seam, int low, int high) {
    if (!isSeam(seam) || low < 0 || high >= now.m || low > high) {
      return BEYOND;
    }
    now.seams.get(seam)[6] = low;
    now.seams.get(seam)[7] = high;
    return 1;
  }

  int guess(int rule) {
    if (rule < 0 || rule > 2) {
      return BEYOND;
    }
    int was = now.rule;
    now.rule = rule;
    return was;
  }

  boolean[][] direct() {
    int n = now.boxes.size();
    boolean[][] hangs = new boolean[n][n];
    for (int[] s : now.seams) {
      int box = s[1] / 10;
      char door = "ab".charAt(s[1] % 10);
      for (char letter : "uv".toCharArray()) {
        String line = now.line(box, letter);
        if (line != null && line.indexOf(door) >= 0) {
          hangs[box][s[0] / 10] = true;
        }
      }
    }
    return hangs;
  }

  boolean[] ring(int box) {
    boolean[][] h = direct();
    int n = h.length;
    for (int k = 0; k < n; k++) {
      for (int i = 0; i < n; i++) {
        for (int j = 0; j < n; j++) {
          h[i][j] |= h[i][k] && h[k][j];
        }
      }
    }
    boolean[] ring = new boolean[n];
    for (int i = 0; i < n; i++) {
      ring[i] = h[i][box] && h[box][i];
    }
    return ring;
  }

  static int set(boolean[] in) {
    int set = 0;
    for (int i = 0; i < in.length; i++) {
      set += in[i] ? 1 << i : 0;
    }
    return set;
  }

  List<Integer> ringSeams(int box) {
    boolean[] ring = ring(box);
    List<Integer> seams = new ArrayList<>();
    for (int s = 0; s < now.seams.size(); s++) {
      if (ring[now.seams.get(s)[0] / 10] && ring[now.seams.get(s)[1] / 10]) {
        seams.add(s);
      }
    }
    return seams;
  }

  void tell(List<Integer> seams, List<Integer> numbers, List<List<Integer>> found) {
    if (numbers.size() < seams.size()) {
      for (int v = 0; v < now.m; v++) {
        List<Integer> longer = new ArrayList<>(numbers);
        longer.add(v);
        tell(seams, longer, found);
      }
      return;
    }
    All beside = now.copy();
    for (int i = 0; i < seams.size(); i++) {
      int to = now.seams.get(seams.get(i))[1];
      beside.boxes.get(to / 10)[3 + to % 10] = numbers.get(i);
    }
    for (int i = 0; i < seams.size(); i++) {
      if (beside.out(now.seams.get(seams.get(i))[0]) != numbers.get(i)) {
        return;
      }
    }
    found.add(numbers);
  }

  int answers(int box) {
    if (!isBox(box)) {
      return BEYOND;
    }
    if (set(ring(box)) == 0) {
      return NONE;
    }
    if (ringSeams(box).size() > 3) {
      return SIZE;
    }
    List<List<Integer>> found = new ArrayList<>();
    tell(ringSeams(box), new ArrayList<>(), found);
    return found.size();
  }

  int solve(int box, int i) {
    if (!isBox(box) || i < 0) {
      return BEYOND;
    }
    if (set(ring(box)) == 0) {
      return NONE;
    }
    if (ringSeams(box).size() > 3) {
      return SIZE;
    }
    List<List<Integer>> found = new ArrayList<>();
    tell(ringSeams(box), new ArrayList<>(), found);
    return found.isEmpty() || i >= found.get(0).size() ? NONE : found.get(0).get(i);
  }

  int order(int s) {
    if (!isSheet(s)) {
      return BEYOND;
    }
    if (sheets[s] == null) {
      return MISSING;
    }
    if (sheets[s].length != now.boxes.size()) {
      return SIZE;
    }
    List<Integer> row = new ArrayList<>();
    for (int v : sheets[s]) {
      if (!isBox(v) || row.contains(v)) {
        return BEYOND;
      }
      row.add(v);
    }
    now.order = row;
    return 1;
  }

  int step(int n) {
    if (n < 1 || n > 50) {
      return BEYOND;
    }
    if (now.hour + n > 999) {
      return FULL;
    }
    for (int i = 0; i < n; i++) {
      kept.add(now.copy());
      now.pass();
    }
    while (kept.size() > 6) {
      kept.remove(0);
    }
    return now.hour;
  }

  int back(int n) {
    if (n < 1 || n > 6) {
      return BEYOND;
    }
    for (int[] b : now.boxes) {
      if (b[0] == 4) {
        return STATE;
      }
    }
    if (kept.size() < n) {
      return NONE;
    }
    for (int i = 0; i < n; i++) {
      now = kept.remove(kept.size() - 1);
    }
    return now.hour;
  }

  int event(int hour, int box, int v) {
    if (hour < now.hour || hour > 999 || !isBox(box) || !isNumber(v)) {
      return BEYOND;
    }
    if (now.events.size() == 20) {
      return FULL;
    }
    now.events.add(new int[] {hour, box, v});
    return now.events.size() - 1;
  }

  int next() {
    for (int h = now.hour; h <= 999; h++) {
      for (int[] e : now.events) {
        if (e[0] == h) {
          return h;
        }
      }
    }
    return NONE;
  }

  void rows(List<Integer> row, List<List<Integer>> all) {
    if (row.size() == now.boxes.size()) {
      all.add(row);
    }
    for (int b = 0; b < now.boxes.size(); b++) {
      if (!row.contains(b)) {
        List<Integer> longer = new ArrayList<>(row);
        longer.add(b);
        rows(longer, all);
      }
    }
  }

  int best(int place) {
    if (place != -1 && !isBox(place)) {
      return BEYOND;
    }
    if (now.boxes.size() > 5) {
      return SIZE;
    }
    if (now.boxes.isEmpty()) {
      return NONE;
    }
    List<List<Integer>> all = new ArrayList<>();
    rows(new ArrayList<>(), all);
    int least = 1000000;
    List<Integer> best = null;
    for (List<Integer> row : all) {
      All beside = now.copy();
      beside.order = row;
      int off = beside.pass();
      if (off < least) {
        least = off;
        best = row;
      }
    }
    return place == -1 ? least : best.get(place);
  }

  int endOf(int n, List<Integer> laid) {
    int[] free = new int[n];
    int[] done = new int[now.boxes.size()];
    int end = 0;
    for (int box : now.order) {
      int start = free[laid.get(box)];
      for (int[] s : now.seams) {
        if (s[1] / 10 == box && now.order.indexOf(s[0] / 10) < now.order.indexOf(box)) {
          start = Math.max(start, done[s[0] / 10]);
        }
      }
      done[box] = start + now.boxes.get(box)[6];
      free[laid.get(box)] = done[box];
      end = Math.max(end, done[box]);
    }
    return end;
  }

  int end(int n, int s) {
    if (n < 1 || n > 3 || !isSheet(s)) {
      return BEYOND;
    }
    if (sheets[s] == null) {
      return MISSING;
    }
    if (sheets[s].length != now.boxes.size()) {
      return SIZE;
    }
    List<Integer> laid = new ArrayList<>();
    for (int v : sheets[s]) {
      if (v < 0 || v >= n) {
        return BEYOND;
      }
      laid.add(v);
    }
    return endOf(n, laid);
  }

  List<Integer> laying(int n, List<Integer> laid) {
    if (laid.size() == now.boxes.size()) {
      return laid;
    }
    List<Integer> best = null;
    for (int m = 0; m < n; m++) {
      List<Integer> longer = new ArrayList<>(laid);
      longer.add(m);
      List<Integer> full = laying(n, longer);
      if (best == null || endOf(n, full) < endOf(n, best)) {
        best = full;
      }
    }
    return best;
  }

  int lay(int n, int box) {
    if (n < 1 || n > 3 || box != -1 && !isBox(box)) {
      return BEYOND;
    }
    List<Integer> best = laying(n, new ArrayList<>());
    return box == -1 ? endOf(n, best) : best.get(box);
  }

  int change(int box, int n, int what) {
    if (!isBox(box) || n < 1 || n > 30) {
      return BEYOND;
    }
    String t = tape;
    tape = "";
    if (fault(t) >= 0) {
      return KIND;
    }
    All one = now.copy();
    All two = now.copy();
    two.texts.set(box, t);
    for (int i = 0; i < n; i++) {
      int hour = one.hour;
      one.pass();
      two.pass();
      for (int s = 0; s < one.seams.size(); s++) {
        if (one.seams.get(s)[2] != two.seams.get(s)[2]) {
          return what == 0 ? hour : s;
        }
      }
    }
    return NONE;
  }

  int judge(int seam, int s) {
    if (!isSeam(seam) || !isSheet(s)) {
      return BEYOND;
    }
    if (sheets[s] == null) {
      return MISSING;
    }
    All beside = now.copy();
    int place = 0;
    for (int v : sheets[s]) {
      beside.pass();
      if (beside.seams.get(seam)[2] != v) {
        break;
      }
      place++;
    }
    return place;
  }

  static int owes(All all) {
    int sum = 0;
    for (int[] s : all.seams) {
      sum += s[5];
    }
    return sum;
  }

  int beside(int rule, int n) {
    if (rule < 0 || rule > 2 || n < 0 || n > 30) {
      return BEYOND;
    }
    All beside = now.copy();
    beside.rule = rule;
    for (int i = 0; i < n; i++) {
      beside.pass();
    }
    return owes(beside);
  }

  int sheet(int s, int b, int n) {
    if (!isSheet(s) || b != 0 && b != 8 && b != 16 && b != 32) {
      return BEYOND;
    }
    if (n < 0) {
      return SIZE;
    }
    if (n > 24) {
      return BEYOND;
    }
    bits[s] = b;
    sheets[s] = b == 0 ? null : new int[n];
    return b == 0 ? 0 : n;
  }

  int write(int s, int i, int v) {
    if (!isSheet(s)) {
      return BEYOND;
    }
    if (sheets[s] == null) {
      return MISSING;
    }
    if (i < 0 || i >= sheets[s].length) {
      return BEYOND;
    }
    sheets[s][i] = (int) (v & (1L << bits[s]) - 1);
    return 1;
  }

  int copy(int s, int from, int t, int to, int n) {
    if (!isSheet(s) || !isSheet(t)) {
      return BEYOND;
    }
    if (sheets[s] == null || sheets[t] == null) {
      return MISSING;
    }
    if (bits[s] != bits[t]) {
      return KIND;
    }
    boolean fits = from >= 0 && to >= 0 && n >= 0
        && (long) from + n <= sheets[s].length && (long) to + n <= sheets[t].length;
    if (!fits) {
      return BEYOND;
    }
    int[] were = sheets[s].clone();
    for (int i = 0; i < n; i++) {
      sheets[t][to + i] = were[from + i];
    }
    return n;
  }

  int undo() {
    if (image == null) {
      return NONE;
    }
    now = image.copy();
    kept.clear();
    return now.hour;
  }

  int tear() {
    int was = image == null ? 0 : 1;
    image = null;
    return was;
  }

  int count(int what) {
    switch (what) {
      case 0: return now.boxes.size();
      case 1: return now.seams.size();
      case 2: return now.events.size();
      case 3: return now.hour;
      case 4: return now.leaps;
      case 5: return owes(now);
      case 6: return tape.length();
      case 7: return kept.size();
      case 8: return now.m;
      default: return BEYOND;
    }
  }

  int status(int which) {
    if (which < -1 || which > 6) {
      return BEYOND;
    }
    int all = 0;
    for (int t : told) {
      all += t;
    }
    return which == -1 ? all : told[which];
  }
}
