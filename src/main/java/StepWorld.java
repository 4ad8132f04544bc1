import java.util.Arrays;

/** Many steppers, one world: the document ../shared/DOC.md says what each call does. */
public final class StepWorld {
  private static final int BEYOND = -1000001;
  private static final int FULL = -1000002;
  private static final int KIND = -1000003;
  private static final int NONE = -1000004;
  private static final int STATE = -1000005;
  private static final int MISSING = -1000006;
  private static final int SIZE = -1000007;
  private static final int FINDINGS = 7;

  private static final int WHOLE_LEAST = 2;
  private static final int WHOLE_MOST = 16;
  private static final int WHOLE_AT_FIRST = 10;
  private static final int HOUR_MOST = 999;
  private static final int BOXES_MOST = 7;
  private static final int SEAMS_MOST = 14;
  private static final int EVENTS_MOST = 20;
  private static final int SHEETS = 4;
  private static final int SHEET_MOST = 24;
  private static final int TAPE_MOST = 80;
  private static final int LINES_MOST = 6;
  private static final int OPEN_MOST = 4;
  private static final int KEPT_MOST = 6;
  private static final int OWES_MOST = 99999;
  private static final int TIME_MOST = 9;
  private static final int MACHINES_MOST = 3;
  private static final int RING_SEAMS_MOST = 3;
  private static final int BEST_BOXES_MOST = 5;
  private static final int STEP_MOST = 50;
  private static final int BESIDE_MOST = 30;
  private static final int RULES = 3;
  private static final int DOORS = 2;
  /** Above all that is counted here: ANSWERS, and how far SEAMS are off. */
  private static final int NO_LIMIT = 1000000;

  private static final int JUMPING = 2;
  private static final int COUNTING = 3;
  private static final int SHUT = 4;
  private static final int PAIRED = 5;
  private static final int KINDS = 6;
  /** The kind above each kind; -1 above BOX. */
  private static final int[] ABOVE = {-1, 0, 1, 0, 0, 3};

  // The letters a LINE is for. The lowest bit tells what stands in for a LINE that isn't there: p or q.
  private static final int P = 0;
  private static final int Q = 1;
  private static final int U = 2;
  private static final int V = 3;
  private static final int LETTERS = 4;

  // What the code of a TEXT is made of; what is below VALUE_P is a NUMBER itself.
  private static final int VALUE_P = 100;
  private static final int VALUE_Q = 101;
  private static final int VALUE_A = 102;
  private static final int VALUE_B = 103;
  private static final int VALUE_H = 104;
  private static final int ADD = 110;
  private static final int LESS = 111;
  private static final int TIMES = 112;
  private static final int REST = 113;

  private final World now;
  private final World side;
  private final World other;
  private final World picture;
  private boolean imaged;
  private final History history;
  private final Lines plain;
  private final Tape tape;
  private final Box told;
  private final Reckoner reckoner;
  private final Hours hours;
  private final Rings rings;
  private final Machines machines;
  private final Sheet[] sheets;
  private final int[] findings;

  public StepWorld() {
    plain = new Lines();
    now = new World(plain);
    side = new World(plain);
    other = new World(plain);
    picture = new World(plain);
    history = new History(plain);
    tape = new Tape();
    told = new Box(plain);
    reckoner = new Reckoner();
    hours = new Hours(reckoner);
    rings = new Rings(reckoner);
    machines = new Machines();
    sheets = new Sheet[SHEETS];
    for (int i = 0; i < SHEETS; i++) {
      sheets[i] = new Sheet();
    }
    findings = new int[FINDINGS];
  }

  // ---- boxes

  public int whole(int m) {
    if (m < WHOLE_LEAST || m > WHOLE_MOST) {
      return found(BEYOND);
    }
    if (now.boxCount > 0) {
      return found(STATE);
    }
    int was = now.whole;
    now.whole = m;
    return was;
  }

  public int box(int kind, int states, int jump) {
    if (!isKind(kind) || !now.isPair(states) || !now.isNumber(jump)) {
      return found(BEYOND);
    }
    if (now.boxCount >= BOXES_MOST) {
      return found(FULL);
    }
    return now.addBox(kind, states, jump, plain);
  }

  public int as(int box, int kind) {
    if (!now.hasBox(box) || !isKind(kind)) {
      return found(BEYOND);
    }
    return isUnder(now.boxes[box].kind, kind) ? box : found(KIND);
  }

  public int of(int box, int what) {
    if (!now.hasBox(box)) {
      return found(BEYOND);
    }
    Box b = now.boxes[box];
    switch (what) {
      case 0: return b.kind;
      case 1: return b.p;
      case 2: return b.q;
      case 3: return b.a;
      case 4: return b.b;
      case 5: return reckoner.work(b, U, now.hour, now.whole);
      case 6: return reckoner.work(b, V, now.hour, now.whole);
      case 7: return b.lines.counting();
      case 8: return b.time;
      case 9: return isUnder(b.kind, JUMPING) ? b.jump : found(KIND);
      default: return found(BEYOND);
    }
  }

  public int set(int box, int states) {
    if (!now.hasBox(box) || !now.isPair(states)) {
      return found(BEYOND);
    }
    Box b = now.boxes[box];
    int was = 100 * b.p + b.q;
    b.tellStates(states);
    return was;
  }

  public int in(int box, int door, int v) {
    if (!now.hasBox(box) || !isDoor(door) || !now.isNumber(v)) {
      return found(BEYOND);
    }
    if (now.seamInto(box, door) >= 0) {
      return found(STATE);
    }
    Box b = now.boxes[box];
    int was = door == 0 ? b.a : b.b;
    b.tellIn(door, v);
    return was;
  }

  public int time(int box, int v) {
    if (!now.hasBox(box) || v < 1 || v > TIME_MOST) {
      return found(BEYOND);
    }
    int was = now.boxes[box].time;
    now.boxes[box].time = v;
    return was;
  }

  public int feed(int bytes, int n) {
    if (n < 1 || n > 4) {
      return found(BEYOND);
    }
    if (tape.length + n > TAPE_MOST) {
      return found(FULL);
    }
    tape.add(bytes, n);
    return tape.length;
  }

  public int text(int box) {
    if (!now.hasBox(box)) {
      return found(BEYOND);
    }
    int fault = tape.readAll();
    if (fault < 0) {
      now.boxes[box].lines = tape.linesRead();
    }
    return fault;
  }

  public int wipe() {
    int had = tape.length;
    tape.length = 0;
    return had;
  }

  public int would(int box, int what, int states, int ins, int hour) {
    boolean asTold = now.hasBox(box) && what >= 0 && what < LETTERS
        && now.isPair(states) && now.isPair(ins) && hour >= 0 && hour <= HOUR_MOST;
    if (!asTold) {
      return found(BEYOND);
    }
    told.copyFrom(now.boxes[box]);
    told.tellStates(states);
    told.tellIn(0, ins / 100);
    told.tellIn(1, ins % 100);
    return reckoner.work(told, what, hour, now.whole);
  }

  // ---- seams

  public int seam(int from, int to) {
    if (!now.isEnd(from) || !now.isEnd(to)) {
      return found(BEYOND);
    }
    if (now.seamInto(to / 10, to % 10) >= 0) {
      return found(STATE);
    }
    if (now.seamCount >= SEAMS_MOST) {
      return found(FULL);
    }
    return now.addSeam(from, to);
  }

  public int seamIs(int seam, int what) {
    if (!now.hasSeam(seam)) {
      return found(BEYOND);
    }
    Seam s = now.seams[seam];
    switch (what) {
      case 0: return 10 * s.fromBox + s.out;
      case 1: return 10 * s.toBox + s.door;
      case 2: return s.last;
      case 3: return s.before;
      case 4: return s.earlier;
      case 5: return s.owes;
      case 6: return s.low;
      case 7: return s.high;
      default: return found(BEYOND);
    }
  }

  public int say(int seam, int low, int high) {
    if (!now.hasSeam(seam) || !now.isNumber(low) || !now.isNumber(high) || low > high) {
      return found(BEYOND);
    }
    now.seams[seam].low = low;
    now.seams[seam].high = high;
    return 1;
  }

  public int guess(int rule) {
    if (!isRule(rule)) {
      return found(BEYOND);
    }
    int was = now.rule;
    now.rule = rule;
    return was;
  }

  public int guessed(int seam) {
    if (!now.hasSeam(seam)) {
      return found(BEYOND);
    }
    return now.seams[seam].guessBy(now.rule, now.whole);
  }

  public int hangs(int box) {
    if (!now.hasBox(box)) {
      return found(BEYOND);
    }
    return rings.hangsOn(now, box);
  }

  public int ring(int box) {
    if (!now.hasBox(box)) {
      return found(BEYOND);
    }
    return rings.ringOf(now, box);
  }

  public int answers(int box) {
    int finding = openRing(box);
    if (finding != 0) {
      return found(finding);
    }
    return rings.search(side, NO_LIMIT);
  }

  public int solve(int box, int i) {
    if (i < 0) {
      return found(BEYOND);
    }
    int finding = openRing(box);
    if (finding != 0) {
      return found(finding);
    }
    if (i >= rings.seamCount || rings.search(side, 1) == 0) {
      return found(NONE);
    }
    return rings.numbers[i];
  }

  /** Makes the RING of a BOX ready to be searched beside: 0, or what forbids it. */
  private int openRing(int box) {
    if (!now.hasBox(box)) {
      return BEYOND;
    }
    int ring = rings.ringOf(now, box);
    if (ring == 0) {
      return NONE;
    }
    rings.gather(now, ring);
    if (rings.seamCount > RING_SEAMS_MOST) {
      return SIZE;
    }
    side.copyFrom(now);
    return 0;
  }

  // ---- hours

  public int order(int s) {
    if (!isSheet(s)) {
      return found(BEYOND);
    }
    if (sheets[s].isMissing()) {
      return found(MISSING);
    }
    if (sheets[s].size != now.boxCount) {
      return found(SIZE);
    }
    if (!now.isRowOfBoxes(sheets[s].numbers)) {
      return found(BEYOND);
    }
    System.arraycopy(sheets[s].numbers, 0, now.order, 0, now.boxCount);
    return 1;
  }

  public int at(int place) {
    if (!now.hasBox(place)) {
      return found(BEYOND);
    }
    return now.order[place];
  }

  public int step(int n) {
    if (n < 1 || n > STEP_MOST) {
      return found(BEYOND);
    }
    if (now.hour + n > HOUR_MOST) {
      return found(FULL);
    }
    for (int i = 0; i < n; i++) {
      // What would be pushed out again within this call needn't be copied.
      if (n - i <= KEPT_MOST) {
        history.keep(now);
      }
      hours.pass(now);
    }
    return now.hour;
  }

  public int back(int n) {
    if (n < 1 || n > KEPT_MOST) {
      return found(BEYOND);
    }
    if (now.hasShut()) {
      return found(STATE);
    }
    if (n > history.length) {
      return found(NONE);
    }
    history.takeBack(n, now);
    return now.hour;
  }

  public int event(int hour, int box, int v) {
    if (hour < now.hour || hour > HOUR_MOST || !now.hasBox(box) || !now.isNumber(v)) {
      return found(BEYOND);
    }
    if (now.eventCount >= EVENTS_MOST) {
      return found(FULL);
    }
    return now.addEvent(hour, box, v);
  }

  public int next() {
    int hour = now.nextEvent();
    return hour < 0 ? found(NONE) : hour;
  }

  public int left(int what) {
    if (what != 0 && what != 1) {
      return found(BEYOND);
    }
    if (now.leftHour < 0) {
      return found(NONE);
    }
    return what == 0 ? now.leftHour : now.leftSeam;
  }

  public int off() {
    side.copyFrom(now);
    return hours.pass(side);
  }

  public int best(int place) {
    if (place != -1 && !now.hasBox(place)) {
      return found(BEYOND);
    }
    if (now.boxCount > BEST_BOXES_MOST) {
      return found(SIZE);
    }
    if (now.boxCount == 0) {
      return found(NONE);
    }
    int least = hours.findBest(now, side);
    return place == -1 ? least : hours.bestRow[place];
  }

  // ---- machines

  public int end(int n, int s) {
    if (!isMachines(n) || !isSheet(s)) {
      return found(BEYOND);
    }
    if (sheets[s].isMissing()) {
      return found(MISSING);
    }
    if (sheets[s].size != now.boxCount) {
      return found(SIZE);
    }
    if (!sheets[s].areBelow(n)) {
      return found(BEYOND);
    }
    return machines.endAs(now, sheets[s].numbers);
  }

  public int lay(int n, int box) {
    if (!isMachines(n) || (box != -1 && !now.hasBox(box))) {
      return found(BEYOND);
    }
    int least = machines.findLaying(now, n);
    return box == -1 ? least : machines.bestLaid[box];
  }

  // ---- beside, records

  public int change(int box, int n) {
    if (!now.hasBox(box) || n < 1 || n > BESIDE_MOST) {
      return found(BEYOND);
    }
    if (tape.readAll() >= 0) {
      return found(KIND);
    }
    int seam = firstChanged(box, tape.linesRead(), n);
    return seam < 0 ? found(NONE) : side.hour - 1;
  }

  public int drift(int box, int n) {
    if (!now.hasBox(box) || n < 1 || n > BESIDE_MOST) {
      return found(BEYOND);
    }
    if (tape.readAll() >= 0) {
      return found(KIND);
    }
    int seam = firstChanged(box, tape.linesRead(), n);
    return seam < 0 ? found(NONE) : seam;
  }

  /** Goes on beside, with and without a BOX's new LINES, till a SEAM's LAST differs: the least such SEAM, or -1. */
  private int firstChanged(int box, Lines lines, int n) {
    side.copyFrom(now);
    other.copyFrom(now);
    other.boxes[box].lines = lines;
    for (int i = 0; i < n; i++) {
      hours.pass(side);
      hours.pass(other);
      for (int s = 0; s < side.seamCount; s++) {
        if (side.seams[s].last != other.seams[s].last) {
          return s;
        }
      }
    }
    return -1;
  }

  public int judge(int seam, int s) {
    if (!now.hasSeam(seam) || !isSheet(s)) {
      return found(BEYOND);
    }
    Sheet record = sheets[s];
    if (record.isMissing()) {
      return found(MISSING);
    }
    side.copyFrom(now);
    for (int i = 0; i < record.size; i++) {
      hours.pass(side);
      if (side.seams[seam].last != record.numbers[i]) {
        return i;
      }
    }
    return record.size;
  }

  public int beside(int rule, int n) {
    if (!isRule(rule) || n < 0 || n > BESIDE_MOST) {
      return found(BEYOND);
    }
    side.copyFrom(now);
    side.rule = rule;
    for (int i = 0; i < n; i++) {
      hours.pass(side);
    }
    return side.owesOfAll();
  }

  // ---- sheets

  public int sheet(int s, int bits, int n) {
    if (!isSheet(s) || (bits != 0 && bits != 8 && bits != 16 && bits != 32)) {
      return found(BEYOND);
    }
    if (n < 0) {
      return found(SIZE);
    }
    if (n > SHEET_MOST) {
      return found(BEYOND);
    }
    sheets[s].begin(bits, bits == 0 ? 0 : n);
    return sheets[s].size;
  }

  public int write(int s, int i, int v) {
    if (!isSheet(s)) {
      return found(BEYOND);
    }
    if (sheets[s].isMissing()) {
      return found(MISSING);
    }
    if (i < 0 || i >= sheets[s].size) {
      return found(BEYOND);
    }
    sheets[s].put(i, v);
    return 1;
  }

  public int copy(int s, int from, int t, int to, int n) {
    if (!isSheet(s) || !isSheet(t)) {
      return found(BEYOND);
    }
    if (sheets[s].isMissing() || sheets[t].isMissing()) {
      return found(MISSING);
    }
    if (sheets[s].bits != sheets[t].bits) {
      return found(KIND);
    }
    if (!sheets[s].hasRange(from, n) || !sheets[t].hasRange(to, n)) {
      return found(BEYOND);
    }
    System.arraycopy(sheets[s].numbers, from, sheets[t].numbers, to, n);
    return n;
  }

  // ---- images

  public int image() {
    picture.copyFrom(now);
    imaged = true;
    return 1;
  }

  public int undo() {
    if (!imaged) {
      return found(NONE);
    }
    now.copyFrom(picture);
    history.length = 0;
    return now.hour;
  }

  public int tear() {
    int was = imaged ? 1 : 0;
    imaged = false;
    return was;
  }

  public int count(int what) {
    switch (what) {
      case 0: return now.boxCount;
      case 1: return now.seamCount;
      case 2: return now.eventCount;
      case 3: return now.hour;
      case 4: return now.leaps;
      case 5: return now.owesOfAll();
      case 6: return tape.length;
      case 7: return history.length;
      case 8: return now.whole;
      default: return found(BEYOND);
    }
  }

  public int status(int which) {
    if (which < -1 || which >= FINDINGS) {
      return found(BEYOND);
    }
    if (which >= 0) {
      return findings[which];
    }
    int all = 0;
    for (int i = 0; i < FINDINGS; i++) {
      all += findings[i];
    }
    return all;
  }

  private int found(int finding) {
    int which = BEYOND - finding;
    if (which >= 0 && which < FINDINGS) {
      findings[which]++;
    }
    return finding;
  }

  private static boolean isKind(int kind) {
    return kind >= 0 && kind < KINDS;
  }

  private static boolean isDoor(int door) {
    return door >= 0 && door < DOORS;
  }

  private static boolean isRule(int rule) {
    return rule >= 0 && rule < RULES;
  }

  private static boolean isMachines(int n) {
    return n >= 1 && n <= MACHINES_MOST;
  }

  private static boolean isSheet(int s) {
    return s >= 0 && s < SHEETS;
  }

  private static boolean isUnder(int kind, int wanted) {
    int k = kind;
    for (int i = 0; i < KINDS && isKind(k); i++) {
      if (k == wanted) {
        return true;
      }
      k = ABOVE[k];
    }
    return false;
  }

  private static int restBy(int x, int m) {
    if (m < 1) {
      return 0;
    }
    int rest = x % m;
    return rest < 0 ? rest + m : rest;
  }

  private static int farOf(int x, int y, int m) {
    return Math.min(restBy(x - y, m), restBy(y - x, m));
  }

  /** The next row of numbers below base, the first number being the slowest. */
  private static void advance(int[] row, int length, int base) {
    for (int i = length - 1; i >= 0; i--) {
      row[i]++;
      if (row[i] < base) {
        return;
      }
      row[i] = 0;
    }
  }

  /** The LINES of a TEXT as code: VALUES first, then what joins them. Never changed, so worlds share it. */
  private static final class Lines {
    final int[] code;
    /** Where the code of each letter begins; -1 if it has no LINE. */
    final int[] starts;
    final int[] ends;

    Lines() {
      code = new int[0];
      starts = new int[LETTERS];
      ends = new int[LETTERS];
      Arrays.fill(starts, -1);
    }

    Lines(int[] code, int[] starts, int[] ends) {
      this.code = code;
      this.starts = starts;
      this.ends = ends;
    }

    boolean has(int letter) {
      return starts[letter] >= 0;
    }

    int counting() {
      int lines = 0;
      for (int letter = 0; letter < LETTERS; letter++) {
        if (has(letter)) {
          lines++;
        }
      }
      return lines;
    }

    boolean names(int letter, int value) {
      if (!has(letter)) {
        return false;
      }
      for (int i = starts[letter]; i < ends[letter]; i++) {
        if (code[i] == value) {
          return true;
        }
      }
      return false;
    }
  }

  /** THE TAPE, and how its bytes are read as a TEXT, each byte being taken or being the FAULT. */
  private static final class Tape {
    private static final int WANTS_LETTER = 0;
    private static final int WANTS_EQUALS = 1;
    private static final int WANTS_VALUE = 2;
    private static final int BEHIND_DIGIT = 3;
    private static final int BEHIND_VALUE = 4;
    private static final int OPENING = -1;

    private final int[] bytes = new int[TAPE_MOST];
    int length;
    private final int[] code = new int[TAPE_MOST];
    private int codes;
    /** What joins VALUES of which the second isn't read whole yet, and each ( that is open. */
    private final int[] waiting = new int[TAPE_MOST];
    private int waits;
    private final int[] starts = new int[LETTERS];
    private final int[] ends = new int[LETTERS];
    private int state;
    private int open;
    private int lines;
    private int letter;
    private int lineStart;

    void add(int number, int n) {
      for (int i = n - 1; i >= 0 && length < TAPE_MOST; i--) {
        bytes[length] = number >>> (8 * i) & 255;
        length++;
      }
    }

    /** Reads all bytes, of which none is left then: -1, or the place of the FAULT. */
    int readAll() {
      int had = length;
      length = 0;
      codes = 0;
      waits = 0;
      open = 0;
      lines = 0;
      lineStart = 0;
      state = WANTS_LETTER;
      Arrays.fill(starts, -1);
      Arrays.fill(ends, 0);
      for (int i = 0; i < had; i++) {
        if (!takes(bytes[i])) {
          return i;
        }
      }
      // A blank stands ahead of a sign, so behind a last blank a sign is wanted still.
      boolean closed = state >= BEHIND_DIGIT && open == 0 && had > 0 && bytes[had - 1] != ' ';
      if (!closed) {
        return had;
      }
      putWaiting(ADD);
      closeLine();
      return -1;
    }

    Lines linesRead() {
      return new Lines(Arrays.copyOf(code, codes), starts.clone(), ends.clone());
    }

    private boolean takes(int c) {
      if (c == ' ') {
        if (state == BEHIND_DIGIT) {
          state = BEHIND_VALUE;
        }
        return true;
      }
      switch (state) {
        case WANTS_LETTER: return takesLetter(c);
        case WANTS_EQUALS: return takesEquals(c);
        case WANTS_VALUE: return takesValue(c);
        case BEHIND_DIGIT: return isDigit(c) ? takesSecondDigit(c) : takesJoint(c);
        default: return takesJoint(c);
      }
    }

    private boolean takesLetter(int c) {
      switch (c) {
        case 'p': letter = P; break;
        case 'q': letter = Q; break;
        case 'u': letter = U; break;
        case 'v': letter = V; break;
        default: return false;
      }
      state = WANTS_EQUALS;
      return true;
    }

    private boolean takesEquals(int c) {
      state = WANTS_VALUE;
      return c == '=';
    }

    private boolean takesValue(int c) {
      if (c == '(') {
        if (open >= OPEN_MOST) {
          return false;
        }
        open++;
        await(OPENING);
        return true;
      }
      if (isDigit(c)) {
        put(c - '0');
        state = BEHIND_DIGIT;
        return true;
      }
      state = BEHIND_VALUE;
      switch (c) {
        case 'p': put(VALUE_P); return true;
        case 'q': put(VALUE_Q); return true;
        case 'a': put(VALUE_A); return true;
        case 'b': put(VALUE_B); return true;
        case 'h': put(VALUE_H); return true;
        default: return false;
      }
    }

    private boolean takesSecondDigit(int c) {
      if (codes < 1) {
        return false;
      }
      code[codes - 1] = 10 * code[codes - 1] + (c - '0');
      state = BEHIND_VALUE;
      return true;
    }

    private boolean takesJoint(int c) {
      switch (c) {
        case '+': return takesOperator(ADD);
        case '-': return takesOperator(LESS);
        case '*': return takesOperator(TIMES);
        case '%': return takesOperator(REST);
        case ')': return takesClosing();
        case ';': return takesLineEnd();
        default: return false;
      }
    }

    private boolean takesOperator(int operator) {
      putWaiting(operator < TIMES ? ADD : TIMES);
      await(operator);
      state = WANTS_VALUE;
      return true;
    }

    private boolean takesClosing() {
      if (open == 0) {
        return false;
      }
      putWaiting(ADD);
      if (waits > 0) {
        waits--;
      }
      open--;
      state = BEHIND_VALUE;
      return true;
    }

    private boolean takesLineEnd() {
      if (open > 0 || lines + 1 >= LINES_MOST) {
        return false;
      }
      putWaiting(ADD);
      closeLine();
      state = WANTS_LETTER;
      return true;
    }

    private void closeLine() {
      starts[letter] = lineStart;
      ends[letter] = codes;
      lineStart = codes;
      lines++;
    }

    /** Puts what waits, back to the last (, as long as it binds as close as an operator does. */
    private void putWaiting(int operator) {
      while (waits > 0 && waiting[waits - 1] >= operator) {
        waits--;
        put(waiting[waits]);
      }
    }

    private void await(int operator) {
      if (waits < waiting.length) {
        waiting[waits] = operator;
        waits++;
      }
    }

    private void put(int c) {
      if (codes < code.length) {
        code[codes] = c;
        codes++;
      }
    }

    private static boolean isDigit(int c) {
      return c >= '0' && c <= '9';
    }
  }

  /** A BOX as it is. */
  private static final class Box {
    int kind;
    int p;
    int q;
    int a;
    int b;
    int jump;
    int time;
    /** INS at its last TURN, if it had one. */
    boolean turned;
    int lastA;
    int lastB;
    Lines lines;

    Box(Lines plain) {
      lines = plain;
    }

    void begin(int kind, int states, int jump, Lines plain) {
      this.kind = kind;
      this.jump = jump;
      tellStates(states);
      a = 0;
      b = 0;
      time = 1;
      turned = false;
      lastA = 0;
      lastB = 0;
      lines = plain;
    }

    void copyFrom(Box x) {
      kind = x.kind;
      p = x.p;
      q = x.q;
      a = x.a;
      b = x.b;
      jump = x.jump;
      time = x.time;
      turned = x.turned;
      lastA = x.lastA;
      lastB = x.lastB;
      lines = x.lines;
    }

    void tellStates(int states) {
      p = states / 100;
      q = states % 100;
    }

    void tellIn(int door, int v) {
      if (door == 0) {
        a = v;
      } else {
        b = v;
      }
    }

    /** Whether this TURN works out new STATES. */
    boolean worksNow() {
      boolean otherA = !turned || a != lastA;
      boolean otherB = !turned || b != lastB;
      switch (kind) {
        case COUNTING: return otherA || otherB;
        case PAIRED: return otherA && otherB;
        default: return true;
      }
    }
  }

  /** A SEAM as it is. */
  private static final class Seam {
    int fromBox;
    int out;
    int toBox;
    int door;
    int last;
    int before;
    int earlier;
    int owes;
    int low;
    int high;

    void begin(int from, int to, int high) {
      fromBox = from / 10;
      out = from % 10;
      toBox = to / 10;
      door = to % 10;
      last = 0;
      before = 0;
      earlier = 0;
      owes = 0;
      low = 0;
      this.high = high;
    }

    void copyFrom(Seam x) {
      fromBox = x.fromBox;
      out = x.out;
      toBox = x.toBox;
      door = x.door;
      last = x.last;
      before = x.before;
      earlier = x.earlier;
      owes = x.owes;
      low = x.low;
      high = x.high;
    }

    int guessBy(int rule, int whole) {
      switch (rule) {
        case 1: return restBy(2 * last - before, whole);
        case 2: return restBy(3 * last - 3 * before + earlier, whole);
        default: return last;
      }
    }

    void settle(int outNow, int off) {
      owes = Math.min(owes + off, OWES_MOST);
      earlier = before;
      before = last;
      last = outNow;
    }
  }

  /** All that sections 1 to 4 of the document tell, but THE TAPE and the HOURS that are kept. */
  private static final class World {
    int whole = WHOLE_AT_FIRST;
    int hour;
    int rule;
    int leaps;
    int leftHour = -1;
    int leftSeam = -1;
    int boxCount;
    int seamCount;
    int eventCount;
    final Box[] boxes = new Box[BOXES_MOST];
    final Seam[] seams = new Seam[SEAMS_MOST];
    final int[] order = new int[BOXES_MOST];
    /** The SEAM into each IN (two for each BOX); -1 if it has none. */
    private final int[] into = new int[DOORS * BOXES_MOST];
    final int[] eventHours = new int[EVENTS_MOST];
    final int[] eventBoxes = new int[EVENTS_MOST];
    final int[] eventNumbers = new int[EVENTS_MOST];

    World(Lines plain) {
      for (int i = 0; i < BOXES_MOST; i++) {
        boxes[i] = new Box(plain);
      }
      for (int i = 0; i < SEAMS_MOST; i++) {
        seams[i] = new Seam();
      }
    }

    void copyFrom(World x) {
      whole = x.whole;
      hour = x.hour;
      rule = x.rule;
      leaps = x.leaps;
      leftHour = x.leftHour;
      leftSeam = x.leftSeam;
      boxCount = x.boxCount;
      seamCount = x.seamCount;
      eventCount = x.eventCount;
      for (int i = 0; i < boxCount; i++) {
        boxes[i].copyFrom(x.boxes[i]);
      }
      for (int i = 0; i < seamCount; i++) {
        seams[i].copyFrom(x.seams[i]);
      }
      System.arraycopy(x.order, 0, order, 0, boxCount);
      System.arraycopy(x.into, 0, into, 0, DOORS * boxCount);
      System.arraycopy(x.eventHours, 0, eventHours, 0, eventCount);
      System.arraycopy(x.eventBoxes, 0, eventBoxes, 0, eventCount);
      System.arraycopy(x.eventNumbers, 0, eventNumbers, 0, eventCount);
    }

    boolean hasBox(int box) {
      return box >= 0 && box < boxCount;
    }

    boolean hasSeam(int seam) {
      return seam >= 0 && seam < seamCount;
    }

    boolean isNumber(int v) {
      return v >= 0 && v < whole;
    }

    /** Whether it is 100 times a number and a number. */
    boolean isPair(int v) {
      return v >= 0 && isNumber(v / 100) && isNumber(v % 100);
    }

    /** Whether it is ten times a BOX and one of two OUTS or INS. */
    boolean isEnd(int v) {
      return v >= 0 && hasBox(v / 10) && isDoor(v % 10);
    }

    int seamInto(int box, int door) {
      return hasBox(box) && isDoor(door) ? into[DOORS * box + door] : -1;
    }

    int addBox(int kind, int states, int jump, Lines plain) {
      int box = boxCount;
      boxes[box].begin(kind, states, jump, plain);
      order[box] = box;
      into[DOORS * box] = -1;
      into[DOORS * box + 1] = -1;
      boxCount++;
      return box;
    }

    int addSeam(int from, int to) {
      int seam = seamCount;
      seams[seam].begin(from, to, whole - 1);
      into[DOORS * (to / 10) + to % 10] = seam;
      seamCount++;
      return seam;
    }

    int addEvent(int atHour, int box, int v) {
      int event = eventCount;
      eventHours[event] = atHour;
      eventBoxes[event] = box;
      eventNumbers[event] = v;
      eventCount++;
      return event;
    }

    /** The least HOUR from the open one on with an EVENT, or -1. */
    int nextEvent() {
      int least = -1;
      for (int i = 0; i < eventCount; i++) {
        if (eventHours[i] >= hour && (least < 0 || eventHours[i] < least)) {
          least = eventHours[i];
        }
      }
      return least;
    }

    boolean hasShut() {
      for (int i = 0; i < boxCount; i++) {
        if (isUnder(boxes[i].kind, SHUT)) {
          return true;
        }
      }
      return false;
    }

    boolean isRowOfBoxes(int[] row) {
      int seen = 0;
      for (int i = 0; i < boxCount; i++) {
        if (i >= row.length || !hasBox(row[i])) {
          return false;
        }
        seen |= 1 << row[i];
      }
      return seen == (1 << boxCount) - 1;
    }

    int owesOfAll() {
      int sum = 0;
      for (int i = 0; i < seamCount; i++) {
        sum += seams[i].owes;
      }
      return sum;
    }
  }

  /** Works out what a LINE of a TEXT tells; one row serves all. */
  private static final class Reckoner {
    /** Each of 5 levels of ( ) keeps two VALUES waiting at most. */
    private final int[] stack = new int[16];

    /** What a letter of a BOX is by its TEXT, its STATES and its INS. */
    int work(Box box, int letter, int hour, int whole) {
      Lines lines = box.lines;
      if (!lines.has(letter)) {
        return (letter & 1) == 0 ? box.p : box.q;
      }
      int top = 0;
      for (int i = lines.starts[letter]; i < lines.ends[letter]; i++) {
        int c = lines.code[i];
        if (c < ADD) {
          if (top < stack.length) {
            stack[top] = restBy(valueOf(c, box, hour), whole);
            top++;
          }
        } else if (top > 1) {
          top--;
          stack[top - 1] = restBy(joined(c, stack[top - 1], stack[top]), whole);
        }
      }
      return stack[0];
    }

    private static int valueOf(int c, Box box, int hour) {
      switch (c) {
        case VALUE_P: return box.p;
        case VALUE_Q: return box.q;
        case VALUE_A: return box.a;
        case VALUE_B: return box.b;
        case VALUE_H: return hour;
        default: return c;
      }
    }

    private static int joined(int operator, int x, int y) {
      switch (operator) {
        case ADD: return x + y;
        case LESS: return x - y;
        case TIMES: return x * y;
        default: return y == 0 ? 0 : x % y;
      }
    }
  }

  /** Does HOURS, in the world or beside it. */
  private static final class Hours {
    private final Reckoner reckoner;
    private final int[] row = new int[BEST_BOXES_MOST];
    final int[] bestRow = new int[BEST_BOXES_MOST];

    Hours(Reckoner reckoner) {
      this.reckoner = reckoner;
    }

    /** Does the open HOUR: how far all SEAMS together were off in it. */
    int pass(World w) {
      for (int i = 0; i < w.eventCount; i++) {
        if (w.eventHours[i] == w.hour) {
          w.boxes[w.eventBoxes[i]].p = w.eventNumbers[i];
        }
      }
      int turned = 0;
      for (int i = 0; i < w.boxCount; i++) {
        takeTurn(w, w.order[i], turned);
        turned |= 1 << w.order[i];
      }
      int off = settleAll(w);
      w.hour++;
      return off;
    }

    private void takeTurn(World w, int box, int turned) {
      Box b = w.boxes[box];
      for (int door = 0; door < DOORS; door++) {
        int seam = w.seamInto(box, door);
        if (seam >= 0) {
          b.tellIn(door, passed(w, seam, turned));
        }
      }
      if (b.worksNow()) {
        int p = reckoner.work(b, P, w.hour, w.whole);
        b.q = reckoner.work(b, Q, w.hour, w.whole);
        b.p = p;
      }
      b.turned = true;
      b.lastA = b.a;
      b.lastB = b.b;
      if (b.p == 0 && isUnder(b.kind, JUMPING)) {
        b.p = b.jump;
        w.leaps++;
      }
    }

    /** What a SEAM passes to its IN, as some BOXES (a set) had their TURN. */
    private int passed(World w, int seam, int turned) {
      Seam s = w.seams[seam];
      boolean known = (turned >> s.fromBox & 1) == 1;
      int v = known
          ? reckoner.work(w.boxes[s.fromBox], U + s.out, w.hour, w.whole)
          : s.guessBy(w.rule, w.whole);
      if (w.leftHour < 0 && (v < s.low || v > s.high)) {
        w.leftHour = w.hour;
        w.leftSeam = seam;
      }
      return v;
    }

    private int settleAll(World w) {
      int sum = 0;
      for (int i = 0; i < w.seamCount; i++) {
        Seam s = w.seams[i];
        Box to = w.boxes[s.toBox];
        int outNow = reckoner.work(w.boxes[s.fromBox], U + s.out, w.hour, w.whole);
        int off = farOf(s.door == 0 ? to.a : to.b, outNow, w.whole);
        s.settle(outNow, off);
        sum += off;
      }
      return sum;
    }

    /** Finds THE BEST ORDER of at most 5 BOXES, and how far all are off by it. */
    int findBest(World w, World side) {
      int n = Math.min(w.boxCount, BEST_BOXES_MOST);
      int rows = 1;
      for (int i = 0; i < n; i++) {
        row[i] = i;
        rows *= i + 1;
      }
      int least = NO_LIMIT;
      for (int i = 0; i < rows; i++) {
        side.copyFrom(w);
        System.arraycopy(row, 0, side.order, 0, n);
        int off = pass(side);
        if (off < least) {
          least = off;
          System.arraycopy(row, 0, bestRow, 0, n);
        }
        nextRow(n);
      }
      return least;
    }

    /** The next row of BOXES, as rows stand behind one another; the last one stays. */
    private void nextRow(int n) {
      int fall = n - 2;
      while (fall >= 0 && row[fall] > row[fall + 1]) {
        fall--;
      }
      if (fall < 0) {
        return;
      }
      int above = n - 1;
      while (above > fall && row[above] < row[fall]) {
        above--;
      }
      swap(fall, above);
      for (int i = fall + 1, j = n - 1; i < j; i++, j--) {
        swap(i, j);
      }
    }

    private void swap(int i, int j) {
      int kept = row[i];
      row[i] = row[j];
      row[j] = kept;
    }
  }

  /** BOXES that hang on themselves, and the numbers that answer them. */
  private static final class Rings {
    private final Reckoner reckoner;
    /** The SEAMS of the RING gathered last. */
    private final int[] seams = new int[SEAMS_MOST];
    int seamCount;
    /** The numbers told for these SEAMS; of the ANSWER found last, if the search stopped there. */
    final int[] numbers = new int[RING_SEAMS_MOST];

    Rings(Reckoner reckoner) {
      this.reckoner = reckoner;
    }

    int hangsOn(World w, int box) {
      Lines lines = w.boxes[box].lines;
      int set = 0;
      for (int door = 0; door < DOORS; door++) {
        int seam = w.seamInto(box, door);
        int value = VALUE_A + door;
        if (seam >= 0 && (lines.names(U, value) || lines.names(V, value))) {
          set |= 1 << w.seams[seam].fromBox;
        }
      }
      return set;
    }

    int ringOf(World w, int box) {
      int reached = reachedFrom(w, box);
      int ring = 0;
      for (int i = 0; i < w.boxCount; i++) {
        if ((reached >> i & 1) == 1 && (reachedFrom(w, i) >> box & 1) == 1) {
          ring |= 1 << i;
        }
      }
      return ring;
    }

    /** BOXES on which a BOX hangs in one step or more. */
    private int reachedFrom(World w, int box) {
      int set = hangsOn(w, box);
      int grown = 0;
      // Each round but the last adds a BOX.
      for (int round = 0; round < BOXES_MOST && grown != set; round++) {
        grown = set;
        for (int i = 0; i < w.boxCount; i++) {
          if ((grown >> i & 1) == 1) {
            set |= hangsOn(w, i);
          }
        }
      }
      return set;
    }

    void gather(World w, int ring) {
      seamCount = 0;
      for (int i = 0; i < w.seamCount; i++) {
        Seam s = w.seams[i];
        if ((ring >> s.fromBox & 1) == 1 && (ring >> s.toBox & 1) == 1) {
          seams[seamCount] = i;
          seamCount++;
        }
      }
    }

    /** How many ANSWERS there are, but no more than a limit; INS of the world beside are changed. */
    int search(World side, int limit) {
      int n = Math.min(seamCount, RING_SEAMS_MOST);
      Arrays.fill(numbers, 0);
      int ways = 1;
      for (int i = 0; i < n; i++) {
        ways *= side.whole;
      }
      int answers = 0;
      for (int i = 0; i < ways; i++) {
        if (isAnswer(side, n)) {
          answers++;
          if (answers >= limit) {
            return answers;
          }
        }
        advance(numbers, n, side.whole);
      }
      return answers;
    }

    private boolean isAnswer(World side, int n) {
      for (int i = 0; i < n; i++) {
        Seam s = side.seams[seams[i]];
        side.boxes[s.toBox].tellIn(s.door, numbers[i]);
      }
      for (int i = 0; i < n; i++) {
        Seam s = side.seams[seams[i]];
        if (reckoner.work(side.boxes[s.fromBox], U + s.out, side.hour, side.whole) != numbers[i]) {
          return false;
        }
      }
      return true;
    }
  }

  /** BOXES laid on MACHINES. */
  private static final class Machines {
    /** Above each END: 7 BOXES of TIME 9. */
    private static final int NO_END = 1000;

    private final int[] laid = new int[BOXES_MOST];
    final int[] bestLaid = new int[BOXES_MOST];
    private final int[] free = new int[MACHINES_MOST];
    private final int[] done = new int[BOXES_MOST];
    /** BOXES for which each BOX waits, as sets. */
    private final int[] waits = new int[BOXES_MOST];

    int endAs(World w, int[] numbers) {
      System.arraycopy(numbers, 0, laid, 0, w.boxCount);
      findWaits(w);
      return endBelow(w, NO_END);
    }

    /** Finds THE LAYING on n MACHINES, and its END. */
    int findLaying(World w, int n) {
      int layings = 1;
      for (int i = 0; i < w.boxCount; i++) {
        layings *= n;
      }
      Arrays.fill(laid, 0);
      findWaits(w);
      int least = NO_END;
      for (int i = 0; i < layings; i++) {
        int end = endBelow(w, least);
        if (end < least) {
          least = end;
          System.arraycopy(laid, 0, bestLaid, 0, w.boxCount);
        }
        advance(laid, w.boxCount, n);
      }
      return least;
    }

    private void findWaits(World w) {
      int ahead = 0;
      for (int i = 0; i < w.boxCount; i++) {
        int box = w.order[i];
        waits[box] = 0;
        for (int door = 0; door < DOORS; door++) {
          int seam = w.seamInto(box, door);
          if (seam >= 0) {
            waits[box] |= ahead & 1 << w.seams[seam].fromBox;
          }
        }
        ahead |= 1 << box;
      }
    }

    /** END of BOXES as they are laid; the bound, as soon as it isn't below that. */
    private int endBelow(World w, int bound) {
      Arrays.fill(free, 0);
      int end = 0;
      for (int i = 0; i < w.boxCount; i++) {
        int box = w.order[i];
        int machine = laid[box];
        int start = free[machine];
        for (int j = 0; j < i; j++) {
          int ahead = w.order[j];
          if ((waits[box] >> ahead & 1) == 1) {
            start = Math.max(start, done[ahead]);
          }
        }
        done[box] = start + w.boxes[box].time;
        free[machine] = done[box];
        end = Math.max(end, done[box]);
        if (end >= bound) {
          return bound;
        }
      }
      return end;
    }
  }

  /** The HOURS that are kept to go back, the oldest first, in a row that goes round. */
  private static final class History {
    private final World[] rows = new World[KEPT_MOST];
    private int first;
    int length;

    History(Lines plain) {
      for (int i = 0; i < KEPT_MOST; i++) {
        rows[i] = new World(plain);
      }
    }

    void keep(World w) {
      rows[(first + length) % KEPT_MOST].copyFrom(w);
      if (length < KEPT_MOST) {
        length++;
      } else {
        first = (first + 1) % KEPT_MOST;
      }
    }

    void takeBack(int n, World w) {
      if (n > length) {
        return;
      }
      length -= n;
      w.copyFrom(rows[(first + length) % KEPT_MOST]);
    }
  }

  /** A sheet; with no bits it is MISSING. */
  private static final class Sheet {
    final int[] numbers = new int[SHEET_MOST];
    int size;
    int bits;

    boolean isMissing() {
      return bits == 0;
    }

    void begin(int bits, int size) {
      this.bits = bits;
      this.size = size;
      Arrays.fill(numbers, 0);
    }

    void put(int i, int v) {
      numbers[i] = bits >= 32 ? v : v & (1 << bits) - 1;
    }

    boolean areBelow(int n) {
      for (int i = 0; i < size; i++) {
        if (numbers[i] < 0 || numbers[i] >= n) {
          return false;
        }
      }
      return true;
    }

    boolean hasRange(int from, int n) {
      // n is looked at first, so that the difference can't run over.
      return from >= 0 && n >= 0 && n <= size && from <= size - n;
    }
  }
}
