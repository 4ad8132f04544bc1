import java.io.IOException;
import java.lang.reflect.Field;
import java.lang.reflect.Method;
import java.lang.reflect.Modifier;
import java.nio.file.Files;
import java.nio.file.Path;
import java.util.ArrayList;
import java.util.List;
import java.util.Map;
import java.util.Set;
import java.util.TreeMap;
import java.util.TreeSet;
import java.util.regex.Matcher;
import java.util.regex.Pattern;

/** The rules of ../shared/LANGUAGE.md, as far as a look at the class and its source can tell. */
public final class LanguageTest extends Due {
  private static final Path SOURCE = Path.of("src/main/java/StepWorld.java");
  private static final String FACE = "whole1 box3 as2 of2 set2 in3 time2 feed2 text1 wipe0 would5 seam2 seamIs2 say3 "
      + "guess1 guessed1 hangs1 ring1 answers1 solve2 order1 at1 step1 back1 event3 next0 left1 off0 best1 end2 lay2 "
      + "change2 drift2 judge2 beside2 sheet3 write3 copy5 image0 undo0 tear0 count1 status1";

  private static final Set<String> LIBRARY = Set.of("java/lang/Object.<init>", "java/lang/System.arraycopy",
      "java/lang/Math.min", "java/lang/Math.max", "java/util/Arrays.fill", "java/util/Arrays.copyOf", "[I.clone");

  public static void main(String[] args) throws IOException {
    face();
    List<Class<?>> classes = new ArrayList<>(List.of(StepWorld.class.getDeclaredClasses()));
    due("at most 12 classes (rule 11)", classes.size() + 1 <= 12 ? 1 : 0, 1);
    for (Class<?> c : classes) {
      int m = c.getModifiers();
      due(c + " is static, and not public or protected (rule 1)",
          Modifier.isStatic(m) && !Modifier.isPublic(m) && !Modifier.isProtected(m) ? 1 : 0, 1);
      due(c + " has no class inside", c.getDeclaredClasses().length, 0);
    }
    classes.add(StepWorld.class);
    for (Class<?> c : classes) {
      methods(c);
      fields(c);
    }
    source(Files.readAllLines(SOURCE));
    compiled(classes);
    close();
  }

  private static void compiled(List<Class<?>> classes) throws IOException {
    Map<String, Bytecode.Code> methods = new TreeMap<>();
    for (Class<?> c : classes) {
      for (Bytecode.Code code : Bytecode.of(c)) {
        methods.put(code.name, code);
      }
    }
    for (Bytecode.Code code : methods.values()) {
      due(code.name + " throws and catches nothing (rule 6)", code.throwing + code.handlers, 0);
      due(code.name + " locks nothing (rule 6)", code.locking, 0);
      due(code.name + " has no lambda, nor joins texts by + (rules 2, 10)", code.dynamic, 0);
      due(code.name + " has no fractions", code.fractions, 0);
      boolean looks = code.name.startsWith("StepWorld.restBy(") || code.name.startsWith("StepWorld$Reckoner.joined(");
      due(code.name + " divides by numbers above 0 alone, or looks first (rule 7)", code.divisions, looks ? 1 : 0);
      for (String call : code.calls) {
        boolean fine = methods.containsKey(call) || LIBRARY.contains(call.replaceAll("\\(.*", ""));
        due(code.name + " calls what it may, " + call + " (rule 4)", fine ? 1 : 0, 1);
      }
      int deep = depth(code.name, methods, 1);
      due(code.name + " goes " + deep + " calls deep, 8 at most, none of them recursion (rule 11)", deep <= 8 ? 1 : 0, 1);
    }
  }

  /** How many calls stand open at once, from this one on; above all that is fine if it calls itself. */
  private static int depth(String method, Map<String, Bytecode.Code> methods, int open) {
    if (!methods.containsKey(method) || open > 20) {
      return open > 20 ? open : 0;
    }
    int most = 0;
    for (String call : new TreeSet<>(methods.get(method).calls)) {
      most = Math.max(most, depth(call, methods, open + 1));
    }
    return most + 1;
  }

  private static void face() {
    Set<String> want = new TreeSet<>(List.of(FACE.split(" ")));
    Set<String> got = new TreeSet<>();
    for (Method m : StepWorld.class.getDeclaredMethods()) {
      if (Modifier.isPublic(m.getModifiers())) {
        got.add(m.getName() + m.getParameterCount());
        due(m + " answers an int", m.getReturnType() == int.class ? 1 : 0, 1);
        due(m + " is no static one", Modifier.isStatic(m.getModifiers()) ? 1 : 0, 0);
        for (Class<?> p : m.getParameterTypes()) {
          due(m + " takes ints", p == int.class ? 1 : 0, 1);
        }
      } else {
        due(m + " is private (rule 1)", Modifier.isPrivate(m.getModifiers()) ? 1 : 0, 1);
      }
    }
    due("the face " + got, got.equals(want) ? 1 : 0, 1);
    due("one constructor", StepWorld.class.getDeclaredConstructors().length, 1);
    due("it is public", StepWorld.class.getConstructors().length, 1);
    due("the class is public and final", StepWorld.class.getModifiers(), Modifier.PUBLIC | Modifier.FINAL);
    for (Field f : StepWorld.class.getDeclaredFields()) {
      due(f + " is private (rule 1)", Modifier.isPrivate(f.getModifiers()) ? 1 : 0, 1);
    }
  }

  private static void methods(Class<?> c) {
    for (Method m : c.getDeclaredMethods()) {
      boolean isFace = c == StepWorld.class && Modifier.isPublic(m.getModifiers());
      boolean named = (" " + FACE).matches(".* " + m.getName() + "[0-9].*");
      due(m + " bears no public name (rule 1)", !isFace && named ? 1 : 0, 0);
      due(m + " has at most seven parameters (rule 11)", m.getParameterCount() <= 7 ? 1 : 0, 1);
      due(m + " is no lambda or bridge (rule 2)", m.isSynthetic() ? 1 : 0, 0);
    }
  }

  private static void fields(Class<?> c) {
    int fields = 0;
    for (Field f : c.getDeclaredFields()) {
      if (!Modifier.isStatic(f.getModifiers())) {
        fields++;
        continue;
      }
      due(f + " is final (rule 5)", Modifier.isFinal(f.getModifiers()) ? 1 : 0, 1);
      due(f + " is an int or a row of ints (rule 5)", f.getType() == int.class || f.getType() == int[].class ? 1 : 0, 1);
    }
    due(c + " has at most 20 fields (rule 11)", fields <= 20 ? 1 : 0, 1);
  }

  private static void source(List<String> lines) {
    StringBuilder plain = new StringBuilder();
    for (String line : lines) {
      due("signs of " + line, line.chars().allMatch(ch -> ch >= 32 && ch < 127) ? 1 : 0, 1);
      plain.append(line.replaceAll("//.*", "").replaceAll("'.'", "0")).append('\n');
    }
    String code = Pattern.compile("/\\*.*?\\*/", Pattern.DOTALL).matcher(plain).replaceAll("");
    String[] words = {
      "throw", "throws", "try", "catch", "synchronized", "assert", "package", "var", "volatile", "native", "equals",
      "hashCode", "toString", "Object", "Random", "Thread", "String", "double", "float"};
    for (String word : words) {
      due("word " + word, Pattern.compile("\\b" + word + "\\b").matcher(code).find() ? 1 : 0, 0);
    }
    due("no arrow", code.contains("->") ? 1 : 0, 0);
    due("no method reference", code.contains("::") ? 1 : 0, 0);
    due("no loop without a bound", code.matches("(?s).*(while \\(true\\)|for \\(;;\\)).*") ? 1 : 0, 0);
    each(code, "import ([\\w.]+);", Set.of("java.util.Arrays"));
    each(code, "\\bSystem\\.(\\w+)", Set.of("arraycopy"));
    each(code, "\\bMath\\.(\\w+)", Set.of("min", "max"));
    each(code, "\\bArrays\\.(\\w+)", Set.of("fill", "copyOf"));
    each(code, "\\bInteger\\.(\\w+)", Set.of());
    lengths(lines);
  }

  private static void each(String code, String pattern, Set<String> fine) {
    Matcher m = Pattern.compile(pattern).matcher(code);
    while (m.find()) {
      due(m.group() + " is in the library's list (rule 4)", fine.contains(m.group(1)) ? 1 : 0, 1);
    }
  }

  private static void lengths(List<String> lines) {
    Pattern head = Pattern.compile("( {2}| {4})[A-Za-z].*\\(.*\\) \\{");
    for (int i = 0; i < lines.size(); i++) {
      Matcher m = head.matcher(lines.get(i));
      if (!m.matches() || lines.get(i).contains("class ")) {
        continue;
      }
      int end = i;
      while (end < lines.size() && !lines.get(end).equals(m.group(1) + "}")) {
        end++;
      }
      due("lines of " + lines.get(i).strip() + " (rule 11)", end - i + 1 <= 60 ? 1 : 0, 1);
    }
  }
}
