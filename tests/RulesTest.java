import java.lang.reflect.Constructor;
import java.lang.reflect.Field;
import java.lang.reflect.Method;
import java.lang.reflect.Modifier;
import java.nio.charset.StandardCharsets;
import java.nio.file.Files;
import java.nio.file.Paths;
import java.util.Map;
import java.util.Set;
import java.util.TreeMap;
import java.util.TreeSet;
import java.util.regex.Matcher;
import java.util.regex.Pattern;

/** The face of the class is that of the document, and the source keeps to the rules that a search can find. */
public final class RulesTest {
  private static final String[] FACE = {
    "int room()", "int gap(int,int,int,int)", "int of(int,int)", "int width(int,int)", "int shut(int,boolean)",
    "int as(int,int)", "int night(int,int)", "int feed(int,int)", "int wipe()", "int house()",
    "int pressure(int)", "int flow(int)", "int lean(int)", "int rounds()", "int rest(int)", "int air(int)",
    "int seed(int)", "int stick(int)", "int sticks(int)", "int widths(int,int,int)", "int most()",
    "int stop(int,int,int,int)", "int order(int)", "int saved(int)", "int line()", "int alone(int,int)",
    "int turns(int)", "int worst()", "int sheet(int,int,int)", "long write(int,int,long)",
    "int copy(int,int,int,int,int)", "int lays(int)", "int read(int)", "int image()", "int undo()", "int tear()",
    "int count(int)", "int status(int)"
  };
  private static final String[] FORBIDDEN = {
    "\\bthrow\\b", "\\btry\\b", "\\bcatch\\b", "\\bsynchronized\\b", "\\bassert\\b", "\\bimport\\b", "\\bpackage\\b",
    "->", "::", "\\bSystem\\.(?!arraycopy)", "Exact\\b", "\\bhashCode\\b", "\\btoString\\b", "\\bThread\\b",
    "\\bstatic \\{", "@", "\\bprotected\\b", "\\bnew \\w+(\\[\\w*\\])*\\(\\) \\{", "MAX_VALUE", "MIN_VALUE"
  };
  private static int wrong = 0;

  public static void main(String[] args) throws Exception {
    checkFace();
    String source = new String(Files.readAllBytes(Paths.get(System.getProperty("source"))), StandardCharsets.ISO_8859_1);
    checkWords(withoutComments(source));
    checkLibrary(withoutComments(source));
    checkMethods(source);
    checkDepth(withoutComments(source));
    System.out.println(wrong == 0 ? "the face and the rules stand" : wrong + " faults of face or rules");
    if (wrong != 0) System.exit(1);
  }

  private static void fault(String what) {
    wrong++;
    System.out.println(what);
  }

  private static void checkFace() {
    Class<?> face = SmokeLeans.class;
    if (!Modifier.isPublic(face.getModifiers()) || !Modifier.isFinal(face.getModifiers())) fault("not public and final");
    Set<String> found = new TreeSet<>();
    Set<String> publicNames = new TreeSet<>();
    for (Method m : face.getDeclaredMethods()) {
      if (Modifier.isPrivate(m.getModifiers()) || m.isSynthetic()) continue;
      found.add(told(m));
      publicNames.add(m.getName());
    }
    Set<String> due = new TreeSet<>(Set.of(FACE));
    if (!found.equals(due)) fault("the face is " + found + ", due is " + due);
    for (Method m : face.getDeclaredMethods()) {
      if (Modifier.isPrivate(m.getModifiers()) && publicNames.contains(m.getName())) fault("private " + m.getName());
    }
    Constructor<?>[] made = face.getDeclaredConstructors();
    if (made.length != 1 || !Modifier.isPublic(made[0].getModifiers()) || made[0].getParameterCount() != 0) fault("constructor");
    for (Field f : face.getDeclaredFields()) {
      if (!Modifier.isPrivate(f.getModifiers())) fault("field " + f.getName() + " is not private");
      checkStatic(f);
    }
    Class<?>[] inside = face.getDeclaredClasses();
    if (inside.length > 11) fault("too many classes");
    for (Class<?> c : inside) {
      if (!Modifier.isStatic(c.getModifiers()) || Modifier.isPublic(c.getModifiers())) fault("class " + c.getName());
      for (Field f : c.getDeclaredFields()) checkStatic(f);
      checkSize(c);
      for (Method m : c.getDeclaredMethods()) {
        if (publicNames.contains(m.getName())) fault(m.getName() + " of " + c.getName() + " bears a name of the face");
      }
    }
    checkSize(face);
  }

  private static void checkSize(Class<?> c) {
    int fields = 0;
    for (Field f : c.getDeclaredFields()) if (!Modifier.isStatic(f.getModifiers())) fields++;
    if (fields > 20) fault("class " + c.getName() + " has " + fields + " fields");
    for (Method m : c.getDeclaredMethods()) if (m.getParameterCount() > 7) fault(m.getName() + " has too many parameters");
  }

  private static void checkStatic(Field f) {
    if (Modifier.isStatic(f.getModifiers()) && !Modifier.isFinal(f.getModifiers())) fault("static " + f.getName() + " can change");
  }

  private static String told(Method m) {
    StringBuilder b = new StringBuilder(m.getReturnType().getName()).append(' ').append(m.getName()).append('(');
    for (Class<?> p : m.getParameterTypes()) b.append(b.charAt(b.length() - 1) == '(' ? "" : ",").append(p.getName());
    return (Modifier.isPublic(m.getModifiers()) ? "" : "not public: ") + b.append(')');
  }

  private static String withoutComments(String source) {
    return source.replaceAll("(?s)/\\*.*?\\*/", " ").replaceAll("//[^\\n]*", " ");
  }

  private static void checkWords(String source) {
    for (String word : FORBIDDEN) {
      Matcher m = Pattern.compile(word).matcher(source);
      if (m.find()) fault("the source has " + m.group() + " (" + word + ")");
    }
    for (int i = 0; i < source.length(); i++) {
      if (source.charAt(i) > 126) fault("sign " + (int) source.charAt(i));
    }
  }

  /** Every name that is called is one of the file's own or of the library's part that rule 4 leaves. */
  private static void checkLibrary(String source) {
    Set<String> own = new TreeSet<>();
    Matcher head = Pattern.compile("(?m)^(?: {4}| {8})(?! )(?:[\\w\\[\\]]+ )+(\\w+)\\([^;]*\\{$").matcher(source);
    while (head.find()) own.add(head.group(1));
    Set<String> words = Set.of("if", "for", "while", "switch", "Plan", "Air", "Trials", "Teller", "Tape", "Sheet");
    Set<String> library = Set.of("System.arraycopy", "Math.abs", "Math.min", "Math.max", "Integer.bitCount", "word.length", "word.charAt");
    Matcher call = Pattern.compile("(\\w+\\.)?\\b(\\w+)\\(").matcher(source);
    while (call.find()) {
      if (own.contains(call.group(2)) || words.contains(call.group(2))) continue;
      String told = call.group().substring(0, call.group().length() - 1);
      if (!library.contains(told)) fault("the source calls " + told);
    }
    Matcher flags = Pattern.compile("boolean\\[\\] (\\w+)").matcher(source);
    while (flags.find()) {
      if (Pattern.compile("arraycopy\\([^;]*\\b" + flags.group(1) + "\\b").matcher(source).find()) fault("arraycopy of booleans");
    }
  }

  /** No method is longer than sixty lines, counted from its head to the brace that stands below it. */
  private static void checkMethods(String source) {
    String[] lines = source.split("\n");
    for (int i = 0; i < lines.length; i++) {
      Matcher m = Pattern.compile("^( +)(?!.*\\bclass\\b)(?!.*=).*\\(.*\\{$").matcher(lines[i]);
      if (!m.matches() || m.group(1).length() > 8) continue;
      int end = i;
      while (end < lines.length && !lines[end].equals(m.group(1) + "}")) end++;
      if (end - i > 60) fault("long method at line " + (i + 1));
    }
  }

  /** Calls go at most eight deep, counted from a public method; methods of one name are taken for one. */
  private static void checkDepth(String source) {
    Map<String, StringBuilder> bodies = new TreeMap<>();
    String[] lines = source.split("\n");
    Pattern head = Pattern.compile("^( {4}| {8})(?! )(?!.*\\bclass\\b)(?!.*=)[\\w\\[\\] ]*\\b(\\w+)\\(.*\\{$");
    for (int i = 0; i < lines.length; i++) {
      Matcher m = head.matcher(lines[i]);
      if (!m.matches() || m.group(1).length() == 8 && lines[i].matches(" +(if|for|while|switch) .*")) continue;
      StringBuilder body = bodies.computeIfAbsent(m.group(2), name -> new StringBuilder());
      for (int k = i + 1; k < lines.length && !lines[k].equals(m.group(1) + "}"); k++) body.append(lines[k]).append('\n');
    }
    for (String name : bodies.keySet()) {
      if (depth(name, bodies, 1) > 8) fault(name + " goes deeper than eight calls");
    }
    if (bodies.size() < 80) fault("only " + bodies.size() + " methods were found");
  }

  private static int depth(String name, Map<String, StringBuilder> bodies, int open) {
    int deepest = 1;
    if (open > 20) return deepest;
    for (String other : bodies.keySet()) {
      if (!Pattern.compile("\\b" + other + "\\(").matcher(bodies.get(name)).find()) continue;
      deepest = Math.max(deepest, 1 + depth(other, bodies, open + 1));
    }
    return deepest;
  }
}
