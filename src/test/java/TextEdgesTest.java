/** What a TEXT is, at its bounds: LINES, NUMBERS, ( open at once, blanks, bytes, and the place of the FAULT. */
public final class TextEdgesTest extends Edge {
  private static final String[] TEXTS = {
    "p=1", "q=a", "u=h", "v=(b)", "p=12+3", "p=1*2%3-4", "p=((((1))))", "p=(1)+((2)*3)", "p=1;q=2;u=3;v=4;p=5;q=6",
    " p = ( 10 - q ) * a ; v = b % 7", "u=1+2*(3+4*(5+6*(7+8*(9+1*2))))", "p=00;q=99;v=(p)"};

  public static void main(String[] args) {
    empty();
    beginnings();
    eachByte();
    blanks();
    numbers();
    open();
    lines();
    letters();
    tape();
    bytes();
    textStays();
    deep();
    faultsApart();
    close();
  }

  private static int fault(String text) {
    StepWorld x = Edge.boxes(1);
    int answer = text(x, 0, text);
    due("no finding for '" + text + "'", x.status(-1), 0);
    due("the tape is empty behind '" + text + "'", x.count(6), 0);
    return answer;
  }

  private static void empty() {
    due("no bytes", fault(""), 0);
    for (int n = 1; n <= 80; n++) {
      due(n + " blanks", fault(" ".repeat(n)), n);
    }
  }

  /** A beginning of a TEXT that is none ends too early: how many bytes there are. */
  private static void beginnings() {
    for (String text : TEXTS) {
      due("'" + text + "'", fault(text), -1);
      for (int n = 0; n < text.length(); n++) {
        String begin = text.substring(0, n);
        due("'" + begin + "'", fault(begin), Oracle.Whole.isText(begin) ? -1 : n);
      }
    }
    String[] early = {"p", "p=", "p=(", "p=1+", "p=1-", "p=1*", "p=1%", "p=(1", "p=(1+", "p=1;", "p=1;q", "p=1;q=", "p=((1)"};
    for (String text : early) {
      due("too early: '" + text + "'", fault(text), text.length());
      due("and with a blank: '" + text + "'", fault(text + " "), text.length() + 1);
    }
  }

  /** Each byte at each place of a TEXT: the FAULT is the first with which no TEXT begins so. */
  private static void eachByte() {
    String[] texts = {"p=1;q=(a+10)*b", "u=((((1))))%h", "p=1;p=2;p=3;p=4;p=5;p=6"};
    for (String text : texts) {
      for (int place = 0; place <= text.length(); place++) {
        for (int c = 0; c < 256; c++) {
          String other = text.substring(0, place) + (char) c + (place < text.length() ? text.substring(place + 1) : "");
          due("byte " + c + " at " + place + " of " + text, fault(other), Oracle.fault(other));
        }
      }
    }
  }

  /** Blanks may stand ahead of each sign: not behind the last one, and not within a NUMBER. */
  private static void blanks() {
    String[] signs = {"p", "=", "(", "10", "-", "q", ")", "*", "a", "%", "7", "+", "h", ";", "v", "=", "b"};
    for (int blanks = 1; blanks <= 3; blanks++) {
      StringBuilder all = new StringBuilder();
      for (int i = 0; i < signs.length; i++) {
        StringBuilder one = new StringBuilder();
        for (int k = 0; k < signs.length; k++) {
          one.append(k == i ? " ".repeat(blanks) : "").append(signs[k]);
        }
        due("blanks ahead of " + signs[i], fault(one.toString()), -1);
        all.append(" ".repeat(blanks)).append(signs[i]);
      }
      due("ahead of all", fault(all.toString()), -1);
      due("behind all", fault(all + " ".repeat(blanks)), all.length() + blanks);
    }
    due("within a number", fault("p=1 0"), 4);
    due("within a number, then more", fault("p=1 0;q=1"), 4);
    due("behind a number of two", fault("p=10 ;q=1"), -1);
    due("behind a number of one", fault("p=1 ;q=1"), -1);
    int[] others = {0, 9, 10, 13, 31, 33, 160, 255};
    for (int c : others) {
      due("no blank: " + c, fault("p" + (char) c + "=1"), 1);
      due("no blank ahead: " + c, fault((char) c + "p=1"), 0);
    }
  }

  private static void numbers() {
    for (int n = 0; n < 100; n++) {
      StepWorld x = Edge.boxes(1);
      due("p=" + n, text(x, 0, "p=" + n), -1);
      due(n + " by 10", x.would(0, 0, 0, 0, 0), n % 10);
      due("three digits", fault("p=" + (n < 10 ? "0" : "") + n + "0"), 4);
    }
    due("00", fault("p=00"), -1);
    due("000", fault("p=000"), 4);
    due("a digit behind a letter", fault("p=a1"), 3);
    due("a digit behind )", fault("p=(1)1"), 5);
    due("three digits within (", fault("p=(123)"), 5);
    due("no sign ahead", fault("p=+1"), 2);
    due("none but the digits", fault("p=:"), 2);
    due("none but the digits", fault("p=/"), 2);
    due("none but the digits behind one", fault("p=1:"), 3);
    due("none but the digits behind one", fault("p=1/"), 3);
  }

  private static void open() {
    for (int n = 1; n <= 4; n++) {
      due(n + " open", fault("p=" + "(".repeat(n) + "1" + ")".repeat(n)), -1);
      due(n + " open, one more )", fault("p=" + "(".repeat(n) + "1" + ")".repeat(n + 1)), 3 + 2 * n);
      due(n + " open, one ) less", fault("p=" + "(".repeat(n) + "1" + ")".repeat(n - 1)), 2 + 2 * n);
      due(n + " open at a ;", fault("p=" + "(".repeat(n) + "1;q=1"), 3 + n);
    }
    due("5 open", fault("p=(((((1)))))"), 6);
    due("5 open behind a sum", fault("p=1+(2+(3+(4+(5+(6)))))"), 16);
    due("6 open", fault("p=((((((1))))))"), 6);
    due("4 open, then one closed and one more", fault("p=((((1)+(2))))"), -1);
    due("4 open, one closed, then two more", fault("p=((((1)+((2)))))"), 10);
    due("each line has its own", fault("p=((((1))));q=((((2))));u=((((3))))"), -1);
    due("many, one at once", fault("p=(1)+(2)+(3)+(4)+(5)+(6)+(7)"), -1);
    due(") ahead of all", fault("p=)1("), 2);
    due("() is none", fault("p=()"), 3);
  }

  private static void lines() {
    StringBuilder b = new StringBuilder();
    String letters = "pquvpq";
    for (int n = 1; n <= 6; n++) {
      b.append(n > 1 ? ";" : "").append(letters.charAt(n - 1)).append('=').append(n);
      StepWorld x = Edge.boxes(1);
      due(n + " lines", text(x, 0, b.toString()), -1);
      due("that count", x.of(0, 7), Math.min(n, 4));
      due("the p that counts", x.would(0, 0, 0, 0, 0), n >= 5 ? 5 : 1);
      due("the q that counts", x.would(0, 1, 0, 0, 0), n >= 6 ? 6 : n >= 2 ? 2 : 0);
    }
    due("the ; behind 6 lines", fault(b + ";"), 23);
    due("a blank and a ; behind 6 lines", fault(b + " ;p=1"), 24);
    due("7 lines", fault(b + ";u=7"), 23);
    due("no line", fault(";"), 0);
    due("an empty line behind", fault("p=1;"), 4);
    due("an empty line between", fault("p=1;;q=1"), 4);
    due("an empty line ahead", fault(";p=1"), 0);
  }

  /** Without a LINE p and q stay, u is p and v is q; each of the others may be there alone. */
  private static void letters() {
    String[] texts = {"p=7", "q=7", "u=7", "v=7"};
    int[] plain = {3, 5, 3, 5};
    for (int i = 0; i < 4; i++) {
      StepWorld x = Edge.boxes(1);
      text(x, 0, texts[i]);
      for (int what = 0; what < 4; what++) {
        due(texts[i] + ": " + what, x.would(0, what, 305, 0, 0), what == i ? 7 : plain[what]);
      }
      due("one line", x.of(0, 7), 1);
    }
    StepWorld x = Edge.boxes(1);
    due("no lines", x.of(0, 7), 0);
    due("six of one letter", text(x, 0, "v=1;v=2;v=3;v=4;v=5;v=6"), -1);
    due("one counts", x.of(0, 7), 1);
    due("the last", x.of(0, 6), 6);
    due("u is p still", x.would(0, 2, 300, 0, 0), 3);
    String values = "pqabh";
    for (int c = 0; c < 256; c++) {
      boolean letter = "pquv".indexOf(c) >= 0;
      due("line for " + c, fault((char) c + "=1"), letter ? -1 : c == ' ' ? 1 : 0);
      boolean value = values.indexOf(c) >= 0 || c >= '0' && c <= '9';
      int place = value ? -1 : c == ' ' || c == '(' ? 3 : 2;
      due("value " + c, fault("p=" + (char) c), place);
    }
  }

  private static void tape() {
    String eighty = "p=10" + "+1".repeat(38);
    due("80 bytes", eighty.length(), 80);
    StepWorld x = Edge.boxes(1);
    due("80 bytes fit", feed(x, eighty), 80);
    due("not one more", x.feed('1', 1), FULL);
    due("are a text", x.text(0), -1);
    due("of 48", x.would(0, 0, 0, 0, 0), 8);
    due("all but the last byte blank", fault(" ".repeat(77) + "p=1"), -1);
    due("79 blanks and p", fault(" ".repeat(79) + "p"), 80);
    due("the last of 80 is the fault", fault("p=10" + "+1".repeat(37) + "+*"), 79);
    due("80 end too early", fault("p=1" + "+1".repeat(38) + "+"), 80);
    due("the longest of letters", fault("p=a" + "+a".repeat(38)), -1);
    due("as many ( as may be", fault("p=((((1))))" + "+((((1))))".repeat(6)), -1);
    StepWorld y = Edge.boxes(1);
    for (int i = 0; i < 80; i++) {
      due("one by one", y.feed(eighty.charAt(i), 1), i + 1);
    }
    due("wipe", y.wipe(), 80);
    due("empty", y.count(6), 0);
    due("room again", y.feed(0, 4), 4);
    due("wipe", y.wipe(), 4);
    due("wipe of none", y.wipe(), 0);
  }

  /** The n lowest bytes, the highest of these first; a byte is 0 to 255, whatever the sign of the number. */
  private static void bytes() {
    StepWorld x = Edge.boxes(1);
    x.feed(0x70717275, 1);
    x.feed(0xFF003D, 1);
    x.feed(0x7F003931, 1);
    due("u=1", x.text(0), -1);
    due("u", x.of(0, 5), 1);
    x.feed(0x00753D32, 3);
    due("u=2", x.text(0), -1);
    due("u", x.of(0, 5), 2);
    x.feed(0x7070763D, 2);
    x.feed(0xFFFF3238, 2);
    due("v=28", x.text(0), -1);
    due("v", x.of(0, 6), 8);
    x.feed(0x703D3133, 4);
    due("p=13", x.text(0), -1);
    due("p", x.would(0, 0, 0, 0, 0), 3);
    x.feed(0xF03D3133, 4);
    due("byte 240", x.text(0), 0);
    x.feed(0x70BD3133, 4);
    due("byte 189", x.text(0), 1);
    x.feed(Integer.MIN_VALUE, 4);
    due("byte 128", x.text(0), 0);
    x.feed(-1, 1);
    due("byte 255", x.text(0), 0);
    x.feed(0x20202070, 4);
    x.feed(0x3D31, 2);
    due("blanks, p=1", x.text(0), -1);
  }

  /** With a FAULT the TEXT stays; without a BOX THE TAPE stays. */
  private static void textStays() {
    StepWorld x = Edge.boxes(2);
    text(x, 0, "p=p+2;u=7");
    due("a fault", text(x, 0, "p=p+3;u=8;"), 10);
    due("p", x.would(0, 0, 100, 0, 0), 3);
    due("u", x.of(0, 5), 7);
    due("lines", x.of(0, 7), 2);
    feed(x, "p=4");
    due("box 2", x.text(2), BEYOND);
    due("box -1", x.text(-1), BEYOND);
    due("the tape stays", x.count(6), 3);
    due("box 1", x.text(1), -1);
    due("of box 1", x.would(1, 0, 0, 0, 0), 4);
    due("not of box 0", x.would(0, 0, 100, 0, 0), 3);
    due("the tape is empty", x.text(1), 0);
    due("its text stays", x.would(1, 0, 0, 0, 0), 4);
  }

  /** All levels of ( ) with a VALUE waiting at each. */
  private static void deep() {
    StepWorld x = new StepWorld();
    x.whole(16);
    x.box(0, 0, 0);
    due("deep on the right", text(x, 0, "u=1+1*(1+1*(1+1*(1+1*(1+1*2))))"), -1);
    due("six and one", x.of(0, 5), 7);
    due("deep on the left", text(x, 0, "u=((((2*1+1)*1+1)*1+1)*1+1)*1+1"), -1);
    due("seven", x.of(0, 5), 7);
    due("less on the right", text(x, 0, "u=9-(8-(7-(6-(5-4))))"), -1);
    due("9 - 8 + 7 - 6 + 5 - 4", x.of(0, 5), 3);
    due("less from the left", text(x, 0, "u=15-1-2-3"), -1);
    due("15 - 1 - 2 - 3", x.of(0, 5), 9);
    due("rests from the left", text(x, 0, "u=14%9%3*2"), -1);
    due("14 % 9 % 3 * 2", x.of(0, 5), 4);
    due("* ahead of -", text(x, 0, "u=15-2*3%4"), -1);
    due("15 - 2", x.of(0, 5), 13);
  }

  /** Nothing of a TEXT with a FAULT, however much of it was open, is in the next one. */
  private static void faultsApart() {
    StepWorld x = Edge.boxes(1);
    for (int i = 0; i < 20; i++) {
      due("much open", text(x, 0, "p=1+1*(1+1*(1+1*(1+1*(1+1*"), 26);
      due("much open, then a fault", text(x, 0, "v=2*(3;"), 6);
      due("a text", text(x, 0, "u=2+3*(4-1)"), -1);
      due("is worked out alone", x.of(0, 5), 1);
      due("with one line", x.of(0, 7), 1);
    }
    due("80 bytes behind all that", text(x, 0, "u=10" + "+1".repeat(38)), -1);
    due("48", x.of(0, 5), 8);
  }
}
