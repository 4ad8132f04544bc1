import java.io.DataInputStream;
import java.io.IOException;
import java.io.InputStream;
import java.util.ArrayList;
import java.util.List;

/** The methods of a compiled class: what they call, and which instructions of interest they have. */
final class Bytecode {
  /** A method as "Class.name" with its descriptor. */
  static final class Code {
    final String name;
    /** What it calls, told as methods are, in order. */
    final List<String> calls = new ArrayList<>();
    int handlers;
    int throwing;
    int locking;
    int dynamic;
    int fractions;
    /** Divisions by what isn't a number above 0 written ahead of it. */
    int divisions;

    Code(String name) {
      this.name = name;
    }
  }

  private static final int BIPUSH = 16;
  private static final int SIPUSH = 17;
  private static final int LDC = 18;
  private static final int TABLESWITCH = 170;
  private static final int LOOKUPSWITCH = 171;
  private static final int WIDE = 196;
  private static final int IINC = 132;

  private Object[] pool;
  private int[] classes;
  /** Of a reference: its class and its name with its type; of the latter: both. */
  private int[][] pairs;
  private final List<Code> codes = new ArrayList<>();

  static List<Code> of(Class<?> c) throws IOException {
    String file = c.getName() + ".class";
    try (InputStream in = c.getResourceAsStream(file)) {
      if (in == null) {
        throw new IOException("no " + file);
      }
      Bytecode read = new Bytecode();
      read.all(new DataInputStream(in));
      return read.codes;
    }
  }

  private void all(DataInputStream in) throws IOException {
    in.skipBytes(8);
    pool(in);
    in.skipBytes(2);
    String self = (String) pool[classes[in.readUnsignedShort()]];
    in.skipBytes(2);
    in.skipBytes(2 * in.readUnsignedShort());
    int fields = in.readUnsignedShort();
    for (int i = 0; i < fields; i++) {
      in.skipBytes(6);
      attributes(in, null);
    }
    int methods = in.readUnsignedShort();
    for (int i = 0; i < methods; i++) {
      in.skipBytes(2);
      String name = (String) pool[in.readUnsignedShort()];
      Code code = new Code(self + "." + name + pool[in.readUnsignedShort()]);
      attributes(in, code);
      codes.add(code);
    }
  }

  private void pool(DataInputStream in) throws IOException {
    int n = in.readUnsignedShort();
    pool = new Object[n];
    classes = new int[n];
    pairs = new int[n][2];
    for (int i = 1; i < n; i++) {
      int tag = in.readUnsignedByte();
      switch (tag) {
        case 1: pool[i] = in.readUTF(); break;
        case 3: pool[i] = in.readInt(); break;
        case 4: in.skipBytes(4); break;
        case 5: case 6: in.skipBytes(8); i++; break;
        case 7: classes[i] = in.readUnsignedShort(); break;
        case 8: case 16: case 19: case 20: in.skipBytes(2); break;
        case 15: in.skipBytes(3); break;
        default: pairs[i] = new int[] {in.readUnsignedShort(), in.readUnsignedShort()};
      }
    }
  }

  private void attributes(DataInputStream in, Code code) throws IOException {
    int n = in.readUnsignedShort();
    for (int i = 0; i < n; i++) {
      String name = (String) pool[in.readUnsignedShort()];
      int length = in.readInt();
      if (code == null || !name.equals("Code")) {
        in.skipBytes(length);
        continue;
      }
      in.skipBytes(4);
      byte[] bytes = new byte[in.readInt()];
      in.readFully(bytes);
      code.handlers = in.readUnsignedShort();
      in.skipBytes(8 * code.handlers);
      attributes(in, null);
      instructions(bytes, code);
    }
  }

  private void instructions(byte[] b, Code code) {
    int ahead = 0;
    for (int at = 0; at < b.length; at += length(b, at)) {
      int op = b[at] & 255;
      if (op >= 182 && op <= 185) {
        code.calls.add(method(two(b, at + 1)));
      }
      code.dynamic += op == 186 ? 1 : 0;
      code.throwing += op == 191 ? 1 : 0;
      code.locking += op == 194 || op == 195 ? 1 : 0;
      // Sums of floats and doubles, and all that makes them of other numbers.
      boolean sums = op >= 96 && op <= 119 && op % 4 >= 2;
      code.fractions += sums || op == 134 || op == 135 || op == 137 || op == 138 ? 1 : 0;
      boolean divides = op == 108 || op == 109 || op == 112 || op == 113;
      code.divisions += divides && pushed(b, ahead) <= 0 ? 1 : 0;
      ahead = at;
    }
  }

  private String method(int i) {
    int[] named = pairs[pairs[i][1]];
    return pool[classes[pairs[i][0]]] + "." + pool[named[0]] + pool[named[1]];
  }

  /** The number that an instruction pushes; 0 if it isn't one that does. */
  private int pushed(byte[] b, int at) {
    int op = b[at] & 255;
    if (op >= 2 && op <= 8) {
      return op - 3;
    }
    switch (op) {
      case BIPUSH: return b[at + 1];
      case SIPUSH: return (short) two(b, at + 1);
      case LDC: return pool[b[at + 1] & 255] instanceof Integer number ? number : 0;
      default: return 0;
    }
  }

  private static int length(byte[] b, int at) {
    int op = b[at] & 255;
    int table = (at & ~3) + 4;
    switch (op) {
      case TABLESWITCH: return table + 12 + 4 * (four(b, table + 8) - four(b, table + 4) + 1) - at;
      case LOOKUPSWITCH: return table + 8 + 8 * four(b, table + 4) - at;
      case WIDE: return (b[at + 1] & 255) == IINC ? 6 : 4;
      case 185: case 186: case 200: case 201: return 5;
      case 197: return 4;
      case IINC: case SIPUSH: case 19: case 20: case 187: case 189: case 192: case 193: case 198: case 199: return 3;
      case BIPUSH: case LDC: case 169: case 188: return 2;
      default: break;
    }
    if (op >= 153 && op <= 168 || op >= 178 && op <= 184) {
      return 3;
    }
    return op >= 21 && op <= 25 || op >= 54 && op <= 58 ? 2 : 1;
  }

  private static int two(byte[] b, int at) {
    return (b[at] & 255) << 8 | b[at + 1] & 255;
  }

  private static int four(byte[] b, int at) {
    return two(b, at) << 16 | two(b, at + 2);
  }
}
